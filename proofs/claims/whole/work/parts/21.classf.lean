theorem q1 : Cond.initialized yX9_isRoom.cls ∈ TB := TB_t 1 (by decide +kernel) (by decide +kernel)
theorem q2 : Cond.initialized yX1_letsOf.cls ∈ TB := TB_t 2 (by decide +kernel) (by decide +kernel)
theorem q3 : Cond.initialized yX0_add.cls ∈ TB := TB_t 3 (by decide +kernel) (by decide +kernel)
theorem q4 : Cond.initialized yX5_valueOf.cls ∈ TB := TB_t 4 (by decide +kernel) (by decide +kernel)
theorem q5 : Cond.initialized yX3_joined.cls ∈ TB := TB_t 5 (by decide +kernel) (by decide +kernel)
theorem q6 : Cond.initialized "java/lang/Math" ∈ TB := TB_t 6 (by decide +kernel) (by decide +kernel)
theorem q7 : Cond.initialized yX2_isKind.cls ∈ TB := TB_t 7 (by decide +kernel) (by decide +kernel)
theorem q8 : Cond.initialized yJ7_fill_53178.cls ∈ TB := TB_t 8 (by decide +kernel) (by decide +kernel)
theorem q9 : Cond.initialized yX8_behindMinutes.cls ∈ TB := TB_t 9 (by decide +kernel) (by decide +kernel)
theorem q10 : Cond.initialized yX4_putBytes.cls ∈ TB := TB_t 10 (by decide +kernel) (by decide +kernel)
theorem q11 : Cond.initialized yX6_isMissing.cls ∈ TB := TB_t 11 (by decide +kernel) (by decide +kernel)
theorem q14 : Cond.initialized yJ6_bitCount_0f7a4.cls ∈ TB := TB_t 14 (by decide +kernel) (by decide +kernel)
theorem q15 : Cond.initialized "java/lang/System" ∈ TB := TB_t 15 (by decide +kernel) (by decide +kernel)
theorem q16 : Cond.initialized yJ0_length_8abf5.cls ∈ TB := TB_t 16 (by decide +kernel) (by decide +kernel)
theorem q17 : Cond.initialized yJ1_charAt_3b067.cls ∈ TB := TB_t 17 (by decide +kernel) (by decide +kernel)
theorem q18 : Cond.initialized yJ3_checkIndex_8e157.cls ∈ TB := TB_t 18 (by decide +kernel) (by decide +kernel)
theorem q41 : Cond.fieldLink RX0 22 (TX0 0).1 (TX0 0).2.1 (TX0 0).2.2.1 ∈ TB := TB_t 41 (by decide +kernel) (by decide +kernel)
theorem q42 : Cond.fieldLink RX9 71 (TX0 0).1 (TX0 0).2.1 (TX0 0).2.2.1 ∈ TB := TB_t 42 (by decide +kernel) (by decide +kernel)
theorem q43 : Cond.fieldLink RX8 89 (TX0 0).1 (TX0 0).2.1 (TX0 0).2.2.1 ∈ TB := TB_t 43 (by decide +kernel) (by decide +kernel)
theorem q44 : Cond.fieldLink RX1 116 (TX0 0).1 (TX0 0).2.1 (TX0 0).2.2.1 ∈ TB := TB_t 44 (by decide +kernel) (by decide +kernel)
theorem q45 : Cond.fieldLink RX0 26 (TX0 1).1 (TX0 1).2.1 (TX0 1).2.2.1 ∈ TB := TB_t 45 (by decide +kernel) (by decide +kernel)
theorem q46 : Cond.fieldLink RX8 40 (TX0 1).1 (TX0 1).2.1 (TX0 1).2.2.1 ∈ TB := TB_t 46 (by decide +kernel) (by decide +kernel)
theorem q47 : Cond.fieldLink RX1 98 (TX0 1).1 (TX0 1).2.1 (TX0 1).2.2.1 ∈ TB := TB_t 47 (by decide +kernel) (by decide +kernel)
theorem q48 : Cond.fieldLink RX9 179 (TX0 1).1 (TX0 1).2.1 (TX0 1).2.2.1 ∈ TB := TB_t 48 (by decide +kernel) (by decide +kernel)
theorem q49 : Cond.fieldLink RX0 9 (TX0 2).1 (TX0 2).2.1 (TX0 2).2.2.1 ∈ TB := TB_t 49 (by decide +kernel) (by decide +kernel)
theorem q50 : Cond.fieldLink RX9 83 (TX0 2).1 (TX0 2).2.1 (TX0 2).2.2.1 ∈ TB := TB_t 50 (by decide +kernel) (by decide +kernel)
theorem q51 : Cond.fieldLink RX1 92 (TX0 2).1 (TX0 2).2.1 (TX0 2).2.2.1 ∈ TB := TB_t 51 (by decide +kernel) (by decide +kernel)
theorem q52 : Cond.fieldLink RX0 13 (TX0 3).1 (TX0 3).2.1 (TX0 3).2.2.1 ∈ TB := TB_t 52 (by decide +kernel) (by decide +kernel)
theorem q53 : Cond.fieldLink RX9 86 (TX0 3).1 (TX0 3).2.1 (TX0 3).2.2.1 ∈ TB := TB_t 53 (by decide +kernel) (by decide +kernel)
theorem q54 : Cond.fieldLink RX1 105 (TX0 3).1 (TX0 3).2.1 (TX0 3).2.2.1 ∈ TB := TB_t 54 (by decide +kernel) (by decide +kernel)
theorem q55 : Cond.fieldLink RX0 16 (TX0 4).1 (TX0 4).2.1 (TX0 4).2.2.1 ∈ TB := TB_t 55 (by decide +kernel) (by decide +kernel)
theorem q56 : Cond.fieldLink RX9 89 (TX0 4).1 (TX0 4).2.1 (TX0 4).2.2.1 ∈ TB := TB_t 56 (by decide +kernel) (by decide +kernel)
theorem q57 : Cond.fieldLink RX1 108 (TX0 4).1 (TX0 4).2.1 (TX0 4).2.2.1 ∈ TB := TB_t 57 (by decide +kernel) (by decide +kernel)
theorem q58 : Cond.fieldLink RX0 19 (TX0 5).1 (TX0 5).2.1 (TX0 5).2.2.1 ∈ TB := TB_t 58 (by decide +kernel) (by decide +kernel)
theorem q59 : Cond.fieldLink RX9 92 (TX0 5).1 (TX0 5).2.1 (TX0 5).2.2.1 ∈ TB := TB_t 59 (by decide +kernel) (by decide +kernel)
theorem q60 : Cond.fieldLink RX1 95 (TX0 5).1 (TX0 5).2.1 (TX0 5).2.2.1 ∈ TB := TB_t 60 (by decide +kernel) (by decide +kernel)
theorem q84 : Cond.methodLink RX5 32 yX5_workOutLets ∈ TB := TB_t 84 (by decide +kernel) (by decide +kernel)
theorem q86 : Cond.instanceMethod yX5_workOutLets ∈ TB := TB_t 86 (by decide +kernel) (by decide +kernel)
theorem q87 : Cond.code yX5_workOutLets cX5_workOutLets 5 none ∈ TB := TB_t 87 (by decide +kernel) (by decide +kernel)
theorem q88 : Cond.methodLink RX5 60 yX5_valueOf ∈ TB := TB_t 88 (by decide +kernel) (by decide +kernel)
theorem q89 : Cond.instanceMethod yX5_valueOf ∈ TB := TB_t 89 (by decide +kernel) (by decide +kernel)
theorem q90 : Cond.selects yX5_valueOf.cls yX5_valueOf yX5_valueOf ∈ TB := TB_t 90 (by decide +kernel) (by decide +kernel)
theorem q91 : Cond.code yX5_valueOf cX5_valueOf 6 (some .int) ∈ TB := TB_t 91 (by decide +kernel) (by decide +kernel)
theorem q92 : Cond.methodLink RX5 52 yX5_lawAt ∈ TB := TB_t 92 (by decide +kernel) (by decide +kernel)
theorem q93 : Cond.instanceMethod yX5_lawAt ∈ TB := TB_t 93 (by decide +kernel) (by decide +kernel)
theorem q94 : Cond.selects yX5_lawAt.cls yX5_lawAt yX5_lawAt ∈ TB := TB_t 94 (by decide +kernel) (by decide +kernel)
theorem q95 : Cond.code yX5_lawAt cX5_lawAt 2 (some (.object "OneDraught$Law")) ∈ TB := TB_t 95 (by decide +kernel) (by decide +kernel)
theorem q97 : Cond.static yX9_isWithin ∈ TB := TB_t 97 (by decide +kernel) (by decide +kernel)
theorem q98 : Cond.code yX9_isWithin cX9_isWithin 3 (some .boolean) ∈ TB := TB_t 98 (by decide +kernel) (by decide +kernel)
theorem q99 : Cond.methodLink RX5 56 yX3_valueWith ∈ TB := TB_t 99 (by decide +kernel) (by decide +kernel)
theorem q100 : Cond.instanceMethod yX3_valueWith ∈ TB := TB_t 100 (by decide +kernel) (by decide +kernel)
theorem q101 : Cond.selects yX3_valueWith.cls yX3_valueWith yX3_valueWith ∈ TB := TB_t 101 (by decide +kernel) (by decide +kernel)
theorem q102 : Cond.code yX3_valueWith cX3_valueWith 7 (some .int) ∈ TB := TB_t 102 (by decide +kernel) (by decide +kernel)
theorem q103 : Cond.methodLink RX3 20 yX3_joined ∈ TB := TB_t 103 (by decide +kernel) (by decide +kernel)
theorem q104 : Cond.static yX3_joined ∈ TB := TB_t 104 (by decide +kernel) (by decide +kernel)
theorem q105 : Cond.code yX3_joined cX3_joined 3 (some .int) ∈ TB := TB_t 105 (by decide +kernel) (by decide +kernel)
theorem q107 : Cond.static yX9_heldWithin ∈ TB := TB_t 107 (by decide +kernel) (by decide +kernel)
theorem q108 : Cond.code yX9_heldWithin cX9_heldWithin 3 (some .int) ∈ TB := TB_t 108 (by decide +kernel) (by decide +kernel)
theorem q109 : Cond.methodLink RX9 139 Lib.Math.min.name ∈ TB := TB_t 109 (by decide +kernel) (by decide +kernel)
theorem q110 : Cond.static Lib.Math.min.name ∈ TB := TB_t 110 (by decide +kernel) (by decide +kernel)
theorem q111 : Cond.code Lib.Math.min.name Lib.Math.min.code 2 (some .int) ∈ TB := TB_t 111 (by decide +kernel) (by decide +kernel)
theorem q112 : Cond.methodLink RX9 338 Lib.Math.max.name ∈ TB := TB_t 112 (by decide +kernel) (by decide +kernel)
theorem q113 : Cond.static Lib.Math.max.name ∈ TB := TB_t 113 (by decide +kernel) (by decide +kernel)
theorem q114 : Cond.code Lib.Math.max.name Lib.Math.max.code 2 (some .int) ∈ TB := TB_t 114 (by decide +kernel) (by decide +kernel)
theorem q115 : Cond.methodLink RX5 68 yX2_letsOf ∈ TB := TB_t 115 (by decide +kernel) (by decide +kernel)
theorem q116 : Cond.static yX2_letsOf ∈ TB := TB_t 116 (by decide +kernel) (by decide +kernel)
theorem q117 : Cond.code yX2_letsOf cX2_letsOf 6 (some .int) ∈ TB := TB_t 117 (by decide +kernel) (by decide +kernel)
theorem q118 : Cond.methodLink RX2 19 Lib.Math.min.name ∈ TB := TB_t 118 (by decide +kernel) (by decide +kernel)
theorem q119 : Cond.fieldLink RX5 35 (TX5 0).1 (TX5 0).2.1 (TX5 0).2.2.1 ∈ TB := TB_t 119 (by decide +kernel) (by decide +kernel)
theorem q120 : Cond.fieldLink RX9 244 (TX5 0).1 (TX5 0).2.1 (TX5 0).2.2.1 ∈ TB := TB_t 120 (by decide +kernel) (by decide +kernel)
theorem q121 : Cond.fieldLink RX5 16 (TX5 1).1 (TX5 1).2.1 (TX5 1).2.2.1 ∈ TB := TB_t 121 (by decide +kernel) (by decide +kernel)
theorem q122 : Cond.fieldLink RX9 264 (TX5 1).1 (TX5 1).2.1 (TX5 1).2.2.1 ∈ TB := TB_t 122 (by decide +kernel) (by decide +kernel)
theorem q123 : Cond.fieldLink RX5 22 (TX5 2).1 (TX5 2).2.1 (TX5 2).2.2.1 ∈ TB := TB_t 123 (by decide +kernel) (by decide +kernel)
theorem q124 : Cond.fieldLink RX5 26 (TX5 3).1 (TX5 3).2.1 (TX5 3).2.2.1 ∈ TB := TB_t 124 (by decide +kernel) (by decide +kernel)
theorem q125 : Cond.fieldLink RX5 29 (TX5 4).1 (TX5 4).2.1 (TX5 4).2.2.1 ∈ TB := TB_t 125 (by decide +kernel) (by decide +kernel)
theorem q137 : Cond.methodLink RX1 48 yJ7_fill_53178 ∈ TB := TB_t 137 (by decide +kernel) (by decide +kernel)
theorem q138 : Cond.static yJ7_fill_53178 ∈ TB := TB_t 138 (by decide +kernel) (by decide +kernel)
theorem q139 : Cond.code yJ7_fill_53178 cJ7_fill_53178 4 none ∈ TB := TB_t 139 (by decide +kernel) (by decide +kernel)
theorem q140 : Cond.fieldLink RX1 12 (TX1 0).1 (TX1 0).2.1 (TX1 0).2.2.1 ∈ TB := TB_t 140 (by decide +kernel) (by decide +kernel)
theorem q141 : Cond.fieldLink RX9 67 (TX1 0).1 (TX1 0).2.1 (TX1 0).2.2.1 ∈ TB := TB_t 141 (by decide +kernel) (by decide +kernel)
theorem q142 : Cond.fieldLink RX8 36 (TX1 0).1 (TX1 0).2.1 (TX1 0).2.2.1 ∈ TB := TB_t 142 (by decide +kernel) (by decide +kernel)
theorem q143 : Cond.fieldLink RX1 21 (TX1 1).1 (TX1 1).2.1 (TX1 1).2.2.1 ∈ TB := TB_t 143 (by decide +kernel) (by decide +kernel)
theorem q144 : Cond.fieldLink RX9 223 (TX1 1).1 (TX1 1).2.1 (TX1 1).2.2.1 ∈ TB := TB_t 144 (by decide +kernel) (by decide +kernel)
theorem q145 : Cond.fieldLink RX1 25 (TX1 2).1 (TX1 2).2.1 (TX1 2).2.2.1 ∈ TB := TB_t 145 (by decide +kernel) (by decide +kernel)
theorem q146 : Cond.fieldLink RX9 118 (TX1 2).1 (TX1 2).2.1 (TX1 2).2.2.1 ∈ TB := TB_t 146 (by decide +kernel) (by decide +kernel)
theorem q147 : Cond.fieldLink RX8 83 (TX1 2).1 (TX1 2).2.1 (TX1 2).2.2.1 ∈ TB := TB_t 147 (by decide +kernel) (by decide +kernel)
theorem q148 : Cond.fieldLink RX1 29 (TX1 3).1 (TX1 3).2.1 (TX1 3).2.2.1 ∈ TB := TB_t 148 (by decide +kernel) (by decide +kernel)
theorem q149 : Cond.fieldLink RX9 121 (TX1 3).1 (TX1 3).2.1 (TX1 3).2.2.1 ∈ TB := TB_t 149 (by decide +kernel) (by decide +kernel)
theorem q150 : Cond.fieldLink RX1 32 (TX1 4).1 (TX1 4).2.1 (TX1 4).2.2.1 ∈ TB := TB_t 150 (by decide +kernel) (by decide +kernel)
theorem q151 : Cond.fieldLink RX8 63 (TX1 4).1 (TX1 4).2.1 (TX1 4).2.2.1 ∈ TB := TB_t 151 (by decide +kernel) (by decide +kernel)
theorem q152 : Cond.fieldLink RX9 124 (TX1 4).1 (TX1 4).2.1 (TX1 4).2.2.1 ∈ TB := TB_t 152 (by decide +kernel) (by decide +kernel)
theorem q153 : Cond.fieldLink RX1 71 (TX1 5).1 (TX1 5).2.1 (TX1 5).2.2.1 ∈ TB := TB_t 153 (by decide +kernel) (by decide +kernel)
theorem q154 : Cond.fieldLink RX8 86 (TX1 5).1 (TX1 5).2.1 (TX1 5).2.2.1 ∈ TB := TB_t 154 (by decide +kernel) (by decide +kernel)
theorem q155 : Cond.fieldLink RX9 176 (TX1 5).1 (TX1 5).2.1 (TX1 5).2.2.1 ∈ TB := TB_t 155 (by decide +kernel) (by decide +kernel)
theorem q156 : Cond.fieldLink RX1 74 (TX1 6).1 (TX1 6).2.1 (TX1 6).2.2.1 ∈ TB := TB_t 156 (by decide +kernel) (by decide +kernel)
theorem q157 : Cond.fieldLink RX9 167 (TX1 6).1 (TX1 6).2.1 (TX1 6).2.2.1 ∈ TB := TB_t 157 (by decide +kernel) (by decide +kernel)
theorem q158 : Cond.fieldLink RX1 77 (TX1 7).1 (TX1 7).2.1 (TX1 7).2.2.1 ∈ TB := TB_t 158 (by decide +kernel) (by decide +kernel)
theorem q159 : Cond.fieldLink RX9 229 (TX1 7).1 (TX1 7).2.1 (TX1 7).2.2.1 ∈ TB := TB_t 159 (by decide +kernel) (by decide +kernel)
theorem q160 : Cond.fieldLink RX1 35 (TX1 8).1 (TX1 8).2.1 (TX1 8).2.2.1 ∈ TB := TB_t 160 (by decide +kernel) (by decide +kernel)
theorem q161 : Cond.fieldLink RX9 147 (TX1 8).1 (TX1 8).2.1 (TX1 8).2.2.1 ∈ TB := TB_t 161 (by decide +kernel) (by decide +kernel)
theorem q162 : Cond.fieldLink RX1 39 (TX1 9).1 (TX1 9).2.1 (TX1 9).2.2.1 ∈ TB := TB_t 162 (by decide +kernel) (by decide +kernel)
theorem q163 : Cond.fieldLink RX1 42 (TX1 10).1 (TX1 10).2.1 (TX1 10).2.2.1 ∈ TB := TB_t 163 (by decide +kernel) (by decide +kernel)
theorem q164 : Cond.fieldLink RX8 59 (TX1 10).1 (TX1 10).2.1 (TX1 10).2.2.1 ∈ TB := TB_t 164 (by decide +kernel) (by decide +kernel)
theorem q165 : Cond.fieldLink RX1 45 (TX1 11).1 (TX1 11).2.1 (TX1 11).2.2.1 ∈ TB := TB_t 165 (by decide +kernel) (by decide +kernel)
theorem q199 : Cond.fieldLink RX8 12 (TX8 0).1 (TX8 0).2.1 (TX8 0).2.2.1 ∈ TB := TB_t 199 (by decide +kernel) (by decide +kernel)
theorem q209 : Cond.fieldLink RX4 9 (TX4 0).1 (TX4 0).2.1 (TX4 0).2.2.1 ∈ TB := TB_t 209 (by decide +kernel) (by decide +kernel)
theorem q210 : Cond.fieldLink RX4 19 (TX4 1).1 (TX4 1).2.1 (TX4 1).2.2.1 ∈ TB := TB_t 210 (by decide +kernel) (by decide +kernel)
theorem q211 : Cond.fieldLink RX9 235 (TX4 1).1 (TX4 1).2.1 (TX4 1).2.2.1 ∈ TB := TB_t 211 (by decide +kernel) (by decide +kernel)
theorem q212 : Cond.fieldLink RX4 49 (TX4 2).1 (TX4 2).2.1 (TX4 2).2.2.1 ∈ TB := TB_t 212 (by decide +kernel) (by decide +kernel)
theorem q213 : Cond.fieldLink RX4 23 (TX4 3).1 (TX4 3).2.1 (TX4 3).2.2.1 ∈ TB := TB_t 213 (by decide +kernel) (by decide +kernel)
theorem q214 : Cond.fieldLink RX4 26 (TX4 4).1 (TX4 4).2.1 (TX4 4).2.2.1 ∈ TB := TB_t 214 (by decide +kernel) (by decide +kernel)
theorem q215 : Cond.fieldLink RX4 54 (TX4 5).1 (TX4 5).2.1 (TX4 5).2.2.1 ∈ TB := TB_t 215 (by decide +kernel) (by decide +kernel)
theorem q216 : Cond.fieldLink RX4 29 (TX4 6).1 (TX4 6).2.1 (TX4 6).2.2.1 ∈ TB := TB_t 216 (by decide +kernel) (by decide +kernel)
theorem q217 : Cond.fieldLink RX4 15 (TX4 7).1 (TX4 7).2.1 (TX4 7).2.2.1 ∈ TB := TB_t 217 (by decide +kernel) (by decide +kernel)
theorem q218 : Cond.fieldLink RX4 32 (TX4 8).1 (TX4 8).2.1 (TX4 8).2.2.1 ∈ TB := TB_t 218 (by decide +kernel) (by decide +kernel)
theorem q219 : Cond.fieldLink RX4 36 (TX4 9).1 (TX4 9).2.1 (TX4 9).2.2.1 ∈ TB := TB_t 219 (by decide +kernel) (by decide +kernel)
theorem q251 : Cond.fieldLink RX6 11 (TX6 0).1 (TX6 0).2.1 (TX6 0).2.2.1 ∈ TB := TB_t 251 (by decide +kernel) (by decide +kernel)
theorem q252 : Cond.fieldLink RX9 274 (TX6 0).1 (TX6 0).2.1 (TX6 0).2.2.1 ∈ TB := TB_t 252 (by decide +kernel) (by decide +kernel)
theorem q253 : Cond.fieldLink RX6 19 (TX6 1).1 (TX6 1).2.1 (TX6 1).2.2.1 ∈ TB := TB_t 253 (by decide +kernel) (by decide +kernel)
theorem q254 : Cond.fieldLink RX9 289 (TX6 1).1 (TX6 1).2.1 (TX6 1).2.2.1 ∈ TB := TB_t 254 (by decide +kernel) (by decide +kernel)
theorem q255 : Cond.fieldLink RX6 15 (TX6 2).1 (TX6 2).2.1 (TX6 2).2.2.1 ∈ TB := TB_t 255 (by decide +kernel) (by decide +kernel)
theorem q256 : Cond.fieldLink RX8 105 (TX6 2).1 (TX6 2).2.1 (TX6 2).2.2.1 ∈ TB := TB_t 256 (by decide +kernel) (by decide +kernel)
theorem q257 : Cond.fieldLink RX9 277 (TX6 2).1 (TX6 2).2.1 (TX6 2).2.2.1 ∈ TB := TB_t 257 (by decide +kernel) (by decide +kernel)
theorem q273 : Cond.fieldLink RX9 305 (TX7 0).1 (TX7 0).2.1 (TX7 0).2.2.1 ∈ TB := TB_t 273 (by decide +kernel) (by decide +kernel)
theorem q274 : Cond.fieldLink RX9 308 (TX7 1).1 (TX7 1).2.1 (TX7 1).2.2.1 ∈ TB := TB_t 274 (by decide +kernel) (by decide +kernel)
theorem q275 : Cond.fieldLink RX9 310 (TX7 2).1 (TX7 2).2.1 (TX7 2).2.2.1 ∈ TB := TB_t 275 (by decide +kernel) (by decide +kernel)
theorem q276 : Cond.fieldLink RX9 320 (TX7 3).1 (TX7 3).2.1 (TX7 3).2.2.1 ∈ TB := TB_t 276 (by decide +kernel) (by decide +kernel)
theorem q278 : Cond.fieldLink RX9 312 (TX7 4).1 (TX7 4).2.1 (TX7 4).2.2.1 ∈ TB := TB_t 278 (by decide +kernel) (by decide +kernel)
theorem q290 : Cond.fieldLink RX9 10 (TX9 0).1 (TX9 0).2.1 (TX9 0).2.2.1 ∈ TB := TB_t 290 (by decide +kernel) (by decide +kernel)
theorem q291 : Cond.fieldLink RX9 16 (TX9 1).1 (TX9 1).2.1 (TX9 1).2.2.1 ∈ TB := TB_t 291 (by decide +kernel) (by decide +kernel)
theorem q292 : Cond.fieldLink RX9 327 (TX9 2).1 (TX9 2).2.1 (TX9 2).2.2.1 ∈ TB := TB_t 292 (by decide +kernel) (by decide +kernel)
theorem q293 : Cond.fieldLink RX9 22 (TX9 3).1 (TX9 3).2.1 (TX9 3).2.2.1 ∈ TB := TB_t 293 (by decide +kernel) (by decide +kernel)
theorem q294 : Cond.fieldLink RX9 29 (TX9 4).1 (TX9 4).2.1 (TX9 4).2.2.1 ∈ TB := TB_t 294 (by decide +kernel) (by decide +kernel)
theorem q295 : Cond.fieldLink RX9 35 (TX9 5).1 (TX9 5).2.1 (TX9 5).2.2.1 ∈ TB := TB_t 295 (by decide +kernel) (by decide +kernel)
theorem q296 : Cond.fieldLink RX9 41 (TX9 6).1 (TX9 6).2.1 (TX9 6).2.2.1 ∈ TB := TB_t 296 (by decide +kernel) (by decide +kernel)
theorem q297 : Cond.fieldLink RX9 45 (TX9 7).1 (TX9 7).2.1 (TX9 7).2.2.1 ∈ TB := TB_t 297 (by decide +kernel) (by decide +kernel)
theorem q298 : Cond.fieldLink RX9 324 (TX9 8).1 (TX9 8).2.1 (TX9 8).2.2.1 ∈ TB := TB_t 298 (by decide +kernel) (by decide +kernel)
theorem q322 : Cond.methodLink RX9 51 yX2_isKind ∈ TB := TB_t 322 (by decide +kernel) (by decide +kernel)
theorem q323 : Cond.static yX2_isKind ∈ TB := TB_t 323 (by decide +kernel) (by decide +kernel)
theorem q324 : Cond.code yX2_isKind cX2_isKind 1 (some .boolean) ∈ TB := TB_t 324 (by decide +kernel) (by decide +kernel)
theorem q326 : Cond.methodLink RX9 57 yX9_isRoom ∈ TB := TB_t 326 (by decide +kernel) (by decide +kernel)
theorem q327 : Cond.static yX9_isRoom ∈ TB := TB_t 327 (by decide +kernel) (by decide +kernel)
theorem q328 : Cond.code yX9_isRoom cX9_isRoom 1 (some .boolean) ∈ TB := TB_t 328 (by decide +kernel) (by decide +kernel)
theorem q329 : Cond.methodLink RX9 60 yX9_isWithin ∈ TB := TB_t 329 (by decide +kernel) (by decide +kernel)
theorem q330 : Cond.constant RX9 66 (-1000000001) ∈ TB := TB_t 330 (by decide +kernel) (by decide +kernel)
theorem q331 : Cond.constant RX9 75 (-1000000003) ∈ TB := TB_t 331 (by decide +kernel) (by decide +kernel)
theorem q332 : Cond.methodLink RX9 76 yX0_add ∈ TB := TB_t 332 (by decide +kernel) (by decide +kernel)
theorem q333 : Cond.instanceMethod yX0_add ∈ TB := TB_t 333 (by decide +kernel) (by decide +kernel)
theorem q334 : Cond.selects yX0_add.cls yX0_add yX0_add ∈ TB := TB_t 334 (by decide +kernel) (by decide +kernel)
theorem q335 : Cond.code yX0_add cX0_add 6 (some .int) ∈ TB := TB_t 335 (by decide +kernel) (by decide +kernel)
theorem q340 : Cond.methodLink RX9 80 yX0_has ∈ TB := TB_t 340 (by decide +kernel) (by decide +kernel)
theorem q341 : Cond.instanceMethod yX0_has ∈ TB := TB_t 341 (by decide +kernel) (by decide +kernel)
theorem q342 : Cond.selects yX0_has.cls yX0_has yX0_has ∈ TB := TB_t 342 (by decide +kernel) (by decide +kernel)
theorem q343 : Cond.code yX0_has cX0_has 2 (some .boolean) ∈ TB := TB_t 343 (by decide +kernel) (by decide +kernel)
theorem q345 : Cond.methodLink RX9 95 yX0_isOpen ∈ TB := TB_t 345 (by decide +kernel) (by decide +kernel)
theorem q346 : Cond.instanceMethod yX0_isOpen ∈ TB := TB_t 346 (by decide +kernel) (by decide +kernel)
theorem q347 : Cond.selects yX0_isOpen.cls yX0_isOpen yX0_isOpen ∈ TB := TB_t 347 (by decide +kernel) (by decide +kernel)
theorem q348 : Cond.code yX0_isOpen cX0_isOpen 2 (some .boolean) ∈ TB := TB_t 348 (by decide +kernel) (by decide +kernel)
theorem q349 : Cond.methodLink RX9 98 yX1_letsOf ∈ TB := TB_t 349 (by decide +kernel) (by decide +kernel)
theorem q350 : Cond.instanceMethod yX1_letsOf ∈ TB := TB_t 350 (by decide +kernel) (by decide +kernel)
theorem q351 : Cond.selects yX1_letsOf.cls yX1_letsOf yX1_letsOf ∈ TB := TB_t 351 (by decide +kernel) (by decide +kernel)
theorem q352 : Cond.code yX1_letsOf cX1_letsOf 2 (some .int) ∈ TB := TB_t 352 (by decide +kernel) (by decide +kernel)
theorem q353 : Cond.methodLink RX1 101 yX5_letsOf ∈ TB := TB_t 353 (by decide +kernel) (by decide +kernel)
theorem q354 : Cond.instanceMethod yX5_letsOf ∈ TB := TB_t 354 (by decide +kernel) (by decide +kernel)
theorem q355 : Cond.selects yX5_letsOf.cls yX5_letsOf yX5_letsOf ∈ TB := TB_t 355 (by decide +kernel) (by decide +kernel)
theorem q356 : Cond.code yX5_letsOf cX5_letsOf 4 (some .int) ∈ TB := TB_t 356 (by decide +kernel) (by decide +kernel)
theorem q357 : Cond.methodLink RX9 102 yX1_flowOf ∈ TB := TB_t 357 (by decide +kernel) (by decide +kernel)
theorem q358 : Cond.instanceMethod yX1_flowOf ∈ TB := TB_t 358 (by decide +kernel) (by decide +kernel)
theorem q359 : Cond.selects yX1_flowOf.cls yX1_flowOf yX1_flowOf ∈ TB := TB_t 359 (by decide +kernel) (by decide +kernel)
theorem q360 : Cond.code yX1_flowOf cX1_flowOf 2 (some .int) ∈ TB := TB_t 360 (by decide +kernel) (by decide +kernel)
theorem q361 : Cond.methodLink RX1 111 yX1_letsOf ∈ TB := TB_t 361 (by decide +kernel) (by decide +kernel)
theorem q362 : Cond.methodLink RX9 105 yX2_worthOf ∈ TB := TB_t 362 (by decide +kernel) (by decide +kernel)
theorem q363 : Cond.static yX2_worthOf ∈ TB := TB_t 363 (by decide +kernel) (by decide +kernel)
theorem q364 : Cond.code yX2_worthOf cX2_worthOf 4 (some .int) ∈ TB := TB_t 364 (by decide +kernel) (by decide +kernel)
theorem q369 : Cond.methodLink RX9 109 yX2_isOf ∈ TB := TB_t 369 (by decide +kernel) (by decide +kernel)
theorem q370 : Cond.static yX2_isOf ∈ TB := TB_t 370 (by decide +kernel) (by decide +kernel)
theorem q371 : Cond.code yX2_isOf cX2_isOf 4 (some .boolean) ∈ TB := TB_t 371 (by decide +kernel) (by decide +kernel)
theorem q372 : Cond.fieldLink RX2 15 RX2 "ABOVE" "[I" ∈ TB := TB_t 372 (by decide +kernel) (by decide +kernel)
theorem q374 : Cond.constant RX9 113 (-1000000012) ∈ TB := TB_t 374 (by decide +kernel) (by decide +kernel)
theorem q383 : Cond.methodLink RX9 114 yX0_swing ∈ TB := TB_t 383 (by decide +kernel) (by decide +kernel)
theorem q384 : Cond.instanceMethod yX0_swing ∈ TB := TB_t 384 (by decide +kernel) (by decide +kernel)
theorem q385 : Cond.selects yX0_swing.cls yX0_swing yX0_swing ∈ TB := TB_t 385 (by decide +kernel) (by decide +kernel)
theorem q386 : Cond.code yX0_swing cX0_swing 3 none ∈ TB := TB_t 386 (by decide +kernel) (by decide +kernel)
theorem q391 : Cond.methodLink RX9 127 yX1_isLit ∈ TB := TB_t 391 (by decide +kernel) (by decide +kernel)
theorem q392 : Cond.instanceMethod yX1_isLit ∈ TB := TB_t 392 (by decide +kernel) (by decide +kernel)
theorem q393 : Cond.selects yX1_isLit.cls yX1_isLit yX1_isLit ∈ TB := TB_t 393 (by decide +kernel) (by decide +kernel)
theorem q394 : Cond.code yX1_isLit cX1_isLit 2 (some .boolean) ∈ TB := TB_t 394 (by decide +kernel) (by decide +kernel)
theorem q395 : Cond.methodLink RX9 130 yX1_draughtOf ∈ TB := TB_t 395 (by decide +kernel) (by decide +kernel)
theorem q396 : Cond.instanceMethod yX1_draughtOf ∈ TB := TB_t 396 (by decide +kernel) (by decide +kernel)
theorem q397 : Cond.selects yX1_draughtOf.cls yX1_draughtOf yX1_draughtOf ∈ TB := TB_t 397 (by decide +kernel) (by decide +kernel)
theorem q398 : Cond.code yX1_draughtOf cX1_draughtOf 2 (some .int) ∈ TB := TB_t 398 (by decide +kernel) (by decide +kernel)
theorem q399 : Cond.methodLink RX1 113 yX1_measureFlows ∈ TB := TB_t 399 (by decide +kernel) (by decide +kernel)
theorem q400 : Cond.instanceMethod yX1_measureFlows ∈ TB := TB_t 400 (by decide +kernel) (by decide +kernel)
theorem q401 : Cond.selects yX1_measureFlows.cls yX1_measureFlows yX1_measureFlows ∈ TB := TB_t 401 (by decide +kernel) (by decide +kernel)
theorem q402 : Cond.code yX1_measureFlows cX1_measureFlows 3 none ∈ TB := TB_t 402 (by decide +kernel) (by decide +kernel)
theorem q403 : Cond.methodLink RX1 119 yX1_flowOf ∈ TB := TB_t 403 (by decide +kernel) (by decide +kernel)
theorem q404 : Cond.methodLink RX1 122 Lib.Math.abs.name ∈ TB := TB_t 404 (by decide +kernel) (by decide +kernel)
theorem q405 : Cond.static Lib.Math.abs.name ∈ TB := TB_t 405 (by decide +kernel) (by decide +kernel)
theorem q406 : Cond.code Lib.Math.abs.name Lib.Math.abs.code 1 (some .int) ∈ TB := TB_t 406 (by decide +kernel) (by decide +kernel)
theorem q411 : Cond.methodLink RX9 133 yX9_mostOf ∈ TB := TB_t 411 (by decide +kernel) (by decide +kernel)
theorem q412 : Cond.static yX9_mostOf ∈ TB := TB_t 412 (by decide +kernel) (by decide +kernel)
theorem q413 : Cond.code yX9_mostOf cX9_mostOf 1 (some .int) ∈ TB := TB_t 413 (by decide +kernel) (by decide +kernel)
theorem q414 : Cond.methodLink RX9 136 yX1_light ∈ TB := TB_t 414 (by decide +kernel) (by decide +kernel)
theorem q415 : Cond.instanceMethod yX1_light ∈ TB := TB_t 415 (by decide +kernel) (by decide +kernel)
theorem q416 : Cond.selects yX1_light.cls yX1_light yX1_light ∈ TB := TB_t 416 (by decide +kernel) (by decide +kernel)
theorem q417 : Cond.code yX1_light cX1_light 3 none ∈ TB := TB_t 417 (by decide +kernel) (by decide +kernel)
theorem q426 : Cond.methodLink RX9 144 yX1_drawDoor ∈ TB := TB_t 426 (by decide +kernel) (by decide +kernel)
theorem q427 : Cond.instanceMethod yX1_drawDoor ∈ TB := TB_t 427 (by decide +kernel) (by decide +kernel)
theorem q428 : Cond.selects yX1_drawDoor.cls yX1_drawDoor yX1_drawDoor ∈ TB := TB_t 428 (by decide +kernel) (by decide +kernel)
theorem q429 : Cond.code yX1_drawDoor cX1_drawDoor 5 none ∈ TB := TB_t 429 (by decide +kernel) (by decide +kernel)
theorem q430 : Cond.methodLink RX1 154 yX1_draw ∈ TB := TB_t 430 (by decide +kernel) (by decide +kernel)
theorem q432 : Cond.instanceMethod yX1_draw ∈ TB := TB_t 432 (by decide +kernel) (by decide +kernel)
theorem q433 : Cond.code yX1_draw cX1_draw 1 (some .int) ∈ TB := TB_t 433 (by decide +kernel) (by decide +kernel)
theorem q434 : Cond.constant RX1 153 1103515245 ∈ TB := TB_t 434 (by decide +kernel) (by decide +kernel)
theorem q435 : Cond.methodLink RX1 160 yX0_add ∈ TB := TB_t 435 (by decide +kernel) (by decide +kernel)
theorem q436 : Cond.methodLink RX1 163 yX0_swing ∈ TB := TB_t 436 (by decide +kernel) (by decide +kernel)
theorem q445 : Cond.methodLink RX9 150 yX1_litMany ∈ TB := TB_t 445 (by decide +kernel) (by decide +kernel)
theorem q446 : Cond.instanceMethod yX1_litMany ∈ TB := TB_t 446 (by decide +kernel) (by decide +kernel)
theorem q447 : Cond.selects yX1_litMany.cls yX1_litMany yX1_litMany ∈ TB := TB_t 447 (by decide +kernel) (by decide +kernel)
theorem q448 : Cond.code yX1_litMany cX1_litMany 1 (some .int) ∈ TB := TB_t 448 (by decide +kernel) (by decide +kernel)
theorem q449 : Cond.methodLink RX1 80 yJ6_bitCount_0f7a4 ∈ TB := TB_t 449 (by decide +kernel) (by decide +kernel)
theorem q450 : Cond.static yJ6_bitCount_0f7a4 ∈ TB := TB_t 450 (by decide +kernel) (by decide +kernel)
theorem q451 : Cond.code yJ6_bitCount_0f7a4 cJ6_bitCount_0f7a4 1 (some .int) ∈ TB := TB_t 451 (by decide +kernel) (by decide +kernel)
theorem q452 : Cond.constant RJ6 265 1431655765 ∈ TB := TB_t 452 (by decide +kernel) (by decide +kernel)
theorem q453 : Cond.constant RJ6 266 858993459 ∈ TB := TB_t 453 (by decide +kernel) (by decide +kernel)
theorem q454 : Cond.constant RJ6 267 252645135 ∈ TB := TB_t 454 (by decide +kernel) (by decide +kernel)
theorem q455 : Cond.methodLink RX9 154 yX1_minutesLeft ∈ TB := TB_t 455 (by decide +kernel) (by decide +kernel)
theorem q456 : Cond.instanceMethod yX1_minutesLeft ∈ TB := TB_t 456 (by decide +kernel) (by decide +kernel)
theorem q457 : Cond.selects yX1_minutesLeft.cls yX1_minutesLeft yX1_minutesLeft ∈ TB := TB_t 457 (by decide +kernel) (by decide +kernel)
theorem q458 : Cond.code yX1_minutesLeft cX1_minutesLeft 1 (some .int) ∈ TB := TB_t 458 (by decide +kernel) (by decide +kernel)
theorem q459 : Cond.methodLink RX1 86 Lib.Math.max.name ∈ TB := TB_t 459 (by decide +kernel) (by decide +kernel)
theorem q460 : Cond.methodLink RX9 157 yX1_passMinute ∈ TB := TB_t 460 (by decide +kernel) (by decide +kernel)
theorem q461 : Cond.instanceMethod yX1_passMinute ∈ TB := TB_t 461 (by decide +kernel) (by decide +kernel)
theorem q462 : Cond.selects yX1_passMinute.cls yX1_passMinute yX1_passMinute ∈ TB := TB_t 462 (by decide +kernel) (by decide +kernel)
theorem q463 : Cond.code yX1_passMinute cX1_passMinute 1 none ∈ TB := TB_t 463 (by decide +kernel) (by decide +kernel)
theorem q464 : Cond.methodLink RX1 144 yX1_carryScent ∈ TB := TB_t 464 (by decide +kernel) (by decide +kernel)
theorem q465 : Cond.instanceMethod yX1_carryScent ∈ TB := TB_t 465 (by decide +kernel) (by decide +kernel)
theorem q466 : Cond.selects yX1_carryScent.cls yX1_carryScent yX1_carryScent ∈ TB := TB_t 466 (by decide +kernel) (by decide +kernel)
theorem q467 : Cond.code yX1_carryScent cX1_carryScent 8 none ∈ TB := TB_t 467 (by decide +kernel) (by decide +kernel)
theorem q468 : Cond.methodLink RX1 65 arraycopyName ∈ TB := TB_t 468 (by decide +kernel) (by decide +kernel)
theorem q469 : Cond.static arraycopyName ∈ TB := TB_t 469 (by decide +kernel) (by decide +kernel)
theorem q470 : Cond.native arraycopyName ∈ TB := TB_t 470 (by decide +kernel) (by decide +kernel)
theorem q471 : Cond.methodLink RX1 125 Lib.MathLoose.min_long.x ∈ TB := TB_t 471 (by decide +kernel) (by decide +kernel)
theorem q472 : Cond.static Lib.MathLoose.min_long.x ∈ TB := TB_t 472 (by decide +kernel) (by decide +kernel)
theorem q473 : Cond.code Lib.MathLoose.min_long.x Lib.MathLoose.min_long.code 4 (some .long) ∈ TB := TB_t 473 (by decide +kernel) (by decide +kernel)
theorem q474 : Cond.methodLink RX1 147 yX1_moveAir ∈ TB := TB_t 474 (by decide +kernel) (by decide +kernel)
theorem q475 : Cond.instanceMethod yX1_moveAir ∈ TB := TB_t 475 (by decide +kernel) (by decide +kernel)
theorem q476 : Cond.selects yX1_moveAir.cls yX1_moveAir yX1_moveAir ∈ TB := TB_t 476 (by decide +kernel) (by decide +kernel)
theorem q477 : Cond.code yX1_moveAir cX1_moveAir 2 none ∈ TB := TB_t 477 (by decide +kernel) (by decide +kernel)
theorem q478 : Cond.methodLink RX1 150 yX1_snuffCandles ∈ TB := TB_t 478 (by decide +kernel) (by decide +kernel)
theorem q480 : Cond.instanceMethod yX1_snuffCandles ∈ TB := TB_t 480 (by decide +kernel) (by decide +kernel)
theorem q481 : Cond.code yX1_snuffCandles cX1_snuffCandles 3 none ∈ TB := TB_t 481 (by decide +kernel) (by decide +kernel)
theorem q482 : Cond.methodLink RX1 129 yX1_isLit ∈ TB := TB_t 482 (by decide +kernel) (by decide +kernel)
theorem q483 : Cond.methodLink RX1 133 yX5_valueOf ∈ TB := TB_t 483 (by decide +kernel) (by decide +kernel)
theorem q485 : Cond.methodLink RX1 140 yX1_light ∈ TB := TB_t 485 (by decide +kernel) (by decide +kernel)
theorem q490 : Cond.methodLink RX9 160 yX0_openMany ∈ TB := TB_t 490 (by decide +kernel) (by decide +kernel)
theorem q491 : Cond.instanceMethod yX0_openMany ∈ TB := TB_t 491 (by decide +kernel) (by decide +kernel)
theorem q492 : Cond.selects yX0_openMany.cls yX0_openMany yX0_openMany ∈ TB := TB_t 492 (by decide +kernel) (by decide +kernel)
theorem q493 : Cond.code yX0_openMany cX0_openMany 1 (some .int) ∈ TB := TB_t 493 (by decide +kernel) (by decide +kernel)
theorem q494 : Cond.methodLink RX0 41 yJ6_bitCount_0f7a4 ∈ TB := TB_t 494 (by decide +kernel) (by decide +kernel)
theorem q495 : Cond.methodLink RX9 163 yX1_goRound ∈ TB := TB_t 495 (by decide +kernel) (by decide +kernel)
theorem q496 : Cond.instanceMethod yX1_goRound ∈ TB := TB_t 496 (by decide +kernel) (by decide +kernel)
theorem q497 : Cond.selects yX1_goRound.cls yX1_goRound yX1_goRound ∈ TB := TB_t 497 (by decide +kernel) (by decide +kernel)
theorem q498 : Cond.code yX1_goRound cX1_goRound 3 none ∈ TB := TB_t 498 (by decide +kernel) (by decide +kernel)
theorem q503 : Cond.methodLink RX9 170 yX1_airOfAll ∈ TB := TB_t 503 (by decide +kernel) (by decide +kernel)
theorem q504 : Cond.instanceMethod yX1_airOfAll ∈ TB := TB_t 504 (by decide +kernel) (by decide +kernel)
theorem q505 : Cond.selects yX1_airOfAll.cls yX1_airOfAll yX1_airOfAll ∈ TB := TB_t 505 (by decide +kernel) (by decide +kernel)
theorem q506 : Cond.code yX1_airOfAll cX1_airOfAll 3 (some .int) ∈ TB := TB_t 506 (by decide +kernel) (by decide +kernel)
theorem q507 : Cond.methodLink RX9 173 yX1_scentOfAll ∈ TB := TB_t 507 (by decide +kernel) (by decide +kernel)
theorem q508 : Cond.instanceMethod yX1_scentOfAll ∈ TB := TB_t 508 (by decide +kernel) (by decide +kernel)
theorem q509 : Cond.selects yX1_scentOfAll.cls yX1_scentOfAll yX1_scentOfAll ∈ TB := TB_t 509 (by decide +kernel) (by decide +kernel)
theorem q510 : Cond.code yX1_scentOfAll cX1_scentOfAll 3 (some .int) ∈ TB := TB_t 510 (by decide +kernel) (by decide +kernel)
theorem q515 : Cond.methodLink RX9 182 yX8_behindMinutes ∈ TB := TB_t 515 (by decide +kernel) (by decide +kernel)
theorem q516 : Cond.instanceMethod yX8_behindMinutes ∈ TB := TB_t 516 (by decide +kernel) (by decide +kernel)
theorem q517 : Cond.selects yX8_behindMinutes.cls yX8_behindMinutes yX8_behindMinutes ∈ TB := TB_t 517 (by decide +kernel) (by decide +kernel)
theorem q518 : Cond.code yX8_behindMinutes cX8_behindMinutes 4 (some (.object "OneDraught$Hall")) ∈ TB := TB_t 518 (by decide +kernel) (by decide +kernel)
theorem q519 : Cond.methodLink RX8 18 yX1_takeFrom ∈ TB := TB_t 519 (by decide +kernel) (by decide +kernel)
theorem q520 : Cond.instanceMethod yX1_takeFrom ∈ TB := TB_t 520 (by decide +kernel) (by decide +kernel)
theorem q521 : Cond.selects yX1_takeFrom.cls yX1_takeFrom yX1_takeFrom ∈ TB := TB_t 521 (by decide +kernel) (by decide +kernel)
theorem q522 : Cond.code yX1_takeFrom cX1_takeFrom 2 none ∈ TB := TB_t 522 (by decide +kernel) (by decide +kernel)
theorem q523 : Cond.methodLink RX1 54 yX0_takeFrom ∈ TB := TB_t 523 (by decide +kernel) (by decide +kernel)
theorem q524 : Cond.instanceMethod yX0_takeFrom ∈ TB := TB_t 524 (by decide +kernel) (by decide +kernel)
theorem q525 : Cond.selects yX0_takeFrom.cls yX0_takeFrom yX0_takeFrom ∈ TB := TB_t 525 (by decide +kernel) (by decide +kernel)
theorem q526 : Cond.code yX0_takeFrom cX0_takeFrom 2 none ∈ TB := TB_t 526 (by decide +kernel) (by decide +kernel)
theorem q527 : Cond.methodLink RX0 29 arraycopyName ∈ TB := TB_t 527 (by decide +kernel) (by decide +kernel)
theorem q528 : Cond.methodLink RX1 58 yX5_takeFrom ∈ TB := TB_t 528 (by decide +kernel) (by decide +kernel)
theorem q529 : Cond.instanceMethod yX5_takeFrom ∈ TB := TB_t 529 (by decide +kernel) (by decide +kernel)
theorem q530 : Cond.selects yX5_takeFrom.cls yX5_takeFrom yX5_takeFrom ∈ TB := TB_t 530 (by decide +kernel) (by decide +kernel)
theorem q531 : Cond.code yX5_takeFrom cX5_takeFrom 3 none ∈ TB := TB_t 531 (by decide +kernel) (by decide +kernel)
theorem q532 : Cond.methodLink RX5 39 arraycopyName ∈ TB := TB_t 532 (by decide +kernel) (by decide +kernel)
theorem q533 : Cond.methodLink RX1 61 yX1_takeAirFrom ∈ TB := TB_t 533 (by decide +kernel) (by decide +kernel)
theorem q534 : Cond.instanceMethod yX1_takeAirFrom ∈ TB := TB_t 534 (by decide +kernel) (by decide +kernel)
theorem q535 : Cond.selects yX1_takeAirFrom.cls yX1_takeAirFrom yX1_takeAirFrom ∈ TB := TB_t 535 (by decide +kernel) (by decide +kernel)
theorem q536 : Cond.code yX1_takeAirFrom cX1_takeAirFrom 2 none ∈ TB := TB_t 536 (by decide +kernel) (by decide +kernel)
theorem q537 : Cond.methodLink RX8 22 yX1_passMinute ∈ TB := TB_t 537 (by decide +kernel) (by decide +kernel)
theorem q542 : Cond.methodLink RX9 186 yX8_minutesUntilStill ∈ TB := TB_t 542 (by decide +kernel) (by decide +kernel)
theorem q543 : Cond.instanceMethod yX8_minutesUntilStill ∈ TB := TB_t 543 (by decide +kernel) (by decide +kernel)
theorem q544 : Cond.selects yX8_minutesUntilStill.cls yX8_minutesUntilStill yX8_minutesUntilStill ∈ TB := TB_t 544 (by decide +kernel) (by decide +kernel)
theorem q545 : Cond.code yX8_minutesUntilStill cX8_minutesUntilStill 3 (some .int) ∈ TB := TB_t 545 (by decide +kernel) (by decide +kernel)
theorem q546 : Cond.methodLink RX8 25 yX1_measureFlows ∈ TB := TB_t 546 (by decide +kernel) (by decide +kernel)
theorem q547 : Cond.methodLink RX8 28 yX1_flowsAreNought ∈ TB := TB_t 547 (by decide +kernel) (by decide +kernel)
theorem q548 : Cond.instanceMethod yX1_flowsAreNought ∈ TB := TB_t 548 (by decide +kernel) (by decide +kernel)
theorem q549 : Cond.selects yX1_flowsAreNought.cls yX1_flowsAreNought yX1_flowsAreNought ∈ TB := TB_t 549 (by decide +kernel) (by decide +kernel)
theorem q550 : Cond.code yX1_flowsAreNought cX1_flowsAreNought 2 (some .boolean) ∈ TB := TB_t 550 (by decide +kernel) (by decide +kernel)
theorem q551 : Cond.methodLink RX8 32 yX1_moveAir ∈ TB := TB_t 551 (by decide +kernel) (by decide +kernel)
theorem q552 : Cond.constant RX8 35 (-1000000005) ∈ TB := TB_t 552 (by decide +kernel) (by decide +kernel)
theorem q557 : Cond.methodLink RX9 190 yX8_fewestToShut ∈ TB := TB_t 557 (by decide +kernel) (by decide +kernel)
theorem q558 : Cond.instanceMethod yX8_fewestToShut ∈ TB := TB_t 558 (by decide +kernel) (by decide +kernel)
theorem q559 : Cond.selects yX8_fewestToShut.cls yX8_fewestToShut yX8_fewestToShut ∈ TB := TB_t 559 (by decide +kernel) (by decide +kernel)
theorem q560 : Cond.code yX8_fewestToShut cX8_fewestToShut 9 (some .int) ∈ TB := TB_t 560 (by decide +kernel) (by decide +kernel)
theorem q561 : Cond.methodLink RX8 46 yJ6_bitCount_0f7a4 ∈ TB := TB_t 561 (by decide +kernel) (by decide +kernel)
theorem q562 : Cond.methodLink RX8 52 yX1_takeAirFrom ∈ TB := TB_t 562 (by decide +kernel) (by decide +kernel)
theorem q563 : Cond.methodLink RX8 55 yX8_isCalm ∈ TB := TB_t 563 (by decide +kernel) (by decide +kernel)
theorem q565 : Cond.instanceMethod yX8_isCalm ∈ TB := TB_t 565 (by decide +kernel) (by decide +kernel)
theorem q566 : Cond.code yX8_isCalm cX8_isCalm 5 (some .boolean) ∈ TB := TB_t 566 (by decide +kernel) (by decide +kernel)
theorem q571 : Cond.methodLink RX9 194 yX8_roomsThatSmell ∈ TB := TB_t 571 (by decide +kernel) (by decide +kernel)
theorem q572 : Cond.instanceMethod yX8_roomsThatSmell ∈ TB := TB_t 572 (by decide +kernel) (by decide +kernel)
theorem q573 : Cond.selects yX8_roomsThatSmell.cls yX8_roomsThatSmell yX8_roomsThatSmell ∈ TB := TB_t 573 (by decide +kernel) (by decide +kernel)
theorem q574 : Cond.code yX8_roomsThatSmell cX8_roomsThatSmell 6 (some .int) ∈ TB := TB_t 574 (by decide +kernel) (by decide +kernel)
theorem q575 : Cond.methodLink RX8 66 yJ7_fill_53178 ∈ TB := TB_t 575 (by decide +kernel) (by decide +kernel)
theorem q576 : Cond.methodLink RX8 72 yX1_carryScent ∈ TB := TB_t 576 (by decide +kernel) (by decide +kernel)
theorem q581 : Cond.methodLink RX9 198 yX8_litWith ∈ TB := TB_t 581 (by decide +kernel) (by decide +kernel)
theorem q582 : Cond.instanceMethod yX8_litWith ∈ TB := TB_t 582 (by decide +kernel) (by decide +kernel)
theorem q583 : Cond.selects yX8_litWith.cls yX8_litWith yX8_litWith ∈ TB := TB_t 583 (by decide +kernel) (by decide +kernel)
theorem q584 : Cond.code yX8_litWith cX8_litWith 6 (some .int) ∈ TB := TB_t 584 (by decide +kernel) (by decide +kernel)
theorem q585 : Cond.methodLink RX8 75 yX0_swing ∈ TB := TB_t 585 (by decide +kernel) (by decide +kernel)
theorem q586 : Cond.methodLink RX8 79 yX1_litMany ∈ TB := TB_t 586 (by decide +kernel) (by decide +kernel)
theorem q591 : Cond.methodLink RX9 202 yX8_allStayLit ∈ TB := TB_t 591 (by decide +kernel) (by decide +kernel)
theorem q592 : Cond.instanceMethod yX8_allStayLit ∈ TB := TB_t 592 (by decide +kernel) (by decide +kernel)
theorem q593 : Cond.selects yX8_allStayLit.cls yX8_allStayLit yX8_allStayLit ∈ TB := TB_t 593 (by decide +kernel) (by decide +kernel)
theorem q594 : Cond.code yX8_allStayLit cX8_allStayLit 5 (some .boolean) ∈ TB := TB_t 594 (by decide +kernel) (by decide +kernel)
theorem q595 : Cond.constant RX9 206 (-1000000005) ∈ TB := TB_t 595 (by decide +kernel) (by decide +kernel)
theorem q600 : Cond.methodLink RX9 207 yX9_isSheet ∈ TB := TB_t 600 (by decide +kernel) (by decide +kernel)
theorem q601 : Cond.static yX9_isSheet ∈ TB := TB_t 601 (by decide +kernel) (by decide +kernel)
theorem q602 : Cond.code yX9_isSheet cX9_isSheet 1 (some .boolean) ∈ TB := TB_t 602 (by decide +kernel) (by decide +kernel)
theorem q603 : Cond.methodLink RX9 210 yX6_isMissing ∈ TB := TB_t 603 (by decide +kernel) (by decide +kernel)
theorem q604 : Cond.instanceMethod yX6_isMissing ∈ TB := TB_t 604 (by decide +kernel) (by decide +kernel)
theorem q605 : Cond.selects yX6_isMissing.cls yX6_isMissing yX6_isMissing ∈ TB := TB_t 605 (by decide +kernel) (by decide +kernel)
theorem q606 : Cond.code yX6_isMissing cX6_isMissing 1 (some .boolean) ∈ TB := TB_t 606 (by decide +kernel) (by decide +kernel)
theorem q607 : Cond.constant RX9 214 (-1000000011) ∈ TB := TB_t 607 (by decide +kernel) (by decide +kernel)
theorem q608 : Cond.methodLink RX9 215 yX8_likeliestDoor ∈ TB := TB_t 608 (by decide +kernel) (by decide +kernel)
theorem q609 : Cond.instanceMethod yX8_likeliestDoor ∈ TB := TB_t 609 (by decide +kernel) (by decide +kernel)
theorem q610 : Cond.selects yX8_likeliestDoor.cls yX8_likeliestDoor yX8_likeliestDoor ∈ TB := TB_t 610 (by decide +kernel) (by decide +kernel)
theorem q611 : Cond.code yX8_likeliestDoor cX8_likeliestDoor 8 (some .int) ∈ TB := TB_t 611 (by decide +kernel) (by decide +kernel)
theorem q612 : Cond.methodLink RX8 92 yX8_differenceWith ∈ TB := TB_t 612 (by decide +kernel) (by decide +kernel)
theorem q613 : Cond.instanceMethod yX8_differenceWith ∈ TB := TB_t 613 (by decide +kernel) (by decide +kernel)
theorem q614 : Cond.selects yX8_differenceWith.cls yX8_differenceWith yX8_differenceWith ∈ TB := TB_t 614 (by decide +kernel) (by decide +kernel)
theorem q615 : Cond.code yX8_differenceWith cX8_differenceWith 7 (some .int) ∈ TB := TB_t 615 (by decide +kernel) (by decide +kernel)
theorem q616 : Cond.methodLink RX8 96 yX0_isOpen ∈ TB := TB_t 616 (by decide +kernel) (by decide +kernel)
theorem q617 : Cond.methodLink RX8 100 yX6_hasNumber ∈ TB := TB_t 617 (by decide +kernel) (by decide +kernel)
theorem q618 : Cond.instanceMethod yX6_hasNumber ∈ TB := TB_t 618 (by decide +kernel) (by decide +kernel)
theorem q619 : Cond.selects yX6_hasNumber.cls yX6_hasNumber yX6_hasNumber ∈ TB := TB_t 619 (by decide +kernel) (by decide +kernel)
theorem q620 : Cond.code yX6_hasNumber cX6_hasNumber 2 (some .boolean) ∈ TB := TB_t 620 (by decide +kernel) (by decide +kernel)
theorem q621 : Cond.methodLink RX6 38 yX6_has ∈ TB := TB_t 621 (by decide +kernel) (by decide +kernel)
theorem q622 : Cond.instanceMethod yX6_has ∈ TB := TB_t 622 (by decide +kernel) (by decide +kernel)
theorem q623 : Cond.selects yX6_has.cls yX6_has yX6_has ∈ TB := TB_t 623 (by decide +kernel) (by decide +kernel)
theorem q624 : Cond.code yX6_has cX6_has 2 (some .boolean) ∈ TB := TB_t 624 (by decide +kernel) (by decide +kernel)
theorem q626 : Cond.constant RX6 42 (-1000000005) ∈ TB := TB_t 626 (by decide +kernel) (by decide +kernel)
theorem q627 : Cond.methodLink RX8 108 Lib.Math.abs.name ∈ TB := TB_t 627 (by decide +kernel) (by decide +kernel)
theorem q628 : Cond.methodLink RX9 219 yX8_differenceWith ∈ TB := TB_t 628 (by decide +kernel) (by decide +kernel)
theorem q633 : Cond.methodLink RX9 232 yX5_valueOf ∈ TB := TB_t 633 (by decide +kernel) (by decide +kernel)
theorem q638 : Cond.methodLink RX9 238 yX4_putBytes ∈ TB := TB_t 638 (by decide +kernel) (by decide +kernel)
theorem q639 : Cond.instanceMethod yX4_putBytes ∈ TB := TB_t 639 (by decide +kernel) (by decide +kernel)
theorem q640 : Cond.selects yX4_putBytes.cls yX4_putBytes yX4_putBytes ∈ TB := TB_t 640 (by decide +kernel) (by decide +kernel)
theorem q641 : Cond.code yX4_putBytes cX4_putBytes 3 none ∈ TB := TB_t 641 (by decide +kernel) (by decide +kernel)
theorem q654 : Cond.constant RX4 35 (-1000000005) ∈ TB := TB_t 654 (by decide +kernel) (by decide +kernel)
theorem q655 : Cond.methodLink RX4 39 yX4_step ∈ TB := TB_t 655 (by decide +kernel) (by decide +kernel)
theorem q657 : Cond.instanceMethod yX4_step ∈ TB := TB_t 657 (by decide +kernel) (by decide +kernel)
theorem q658 : Cond.code yX4_step cX4_step 3 none ∈ TB := TB_t 658 (by decide +kernel) (by decide +kernel)
theorem q659 : Cond.methodLink RX4 150 yX4_sortAt ∈ TB := TB_t 659 (by decide +kernel) (by decide +kernel)
theorem q661 : Cond.instanceMethod yX4_sortAt ∈ TB := TB_t 661 (by decide +kernel) (by decide +kernel)
theorem q662 : Cond.code yX4_sortAt cX4_sortAt 3 (some .int) ∈ TB := TB_t 662 (by decide +kernel) (by decide +kernel)
theorem q663 : Cond.methodLink RX4 42 yX4_readKey ∈ TB := TB_t 663 (by decide +kernel) (by decide +kernel)
theorem q665 : Cond.instanceMethod yX4_readKey ∈ TB := TB_t 665 (by decide +kernel) (by decide +kernel)
theorem q666 : Cond.code yX4_readKey cX4_readKey 1 none ∈ TB := TB_t 666 (by decide +kernel) (by decide +kernel)
theorem q668 : Cond.methodLink RX4 68 yX4_isWord ∈ TB := TB_t 668 (by decide +kernel) (by decide +kernel)
theorem q670 : Cond.instanceMethod yX4_isWord ∈ TB := TB_t 670 (by decide +kernel) (by decide +kernel)
theorem q671 : Cond.code yX4_isWord cX4_isWord 3 (some .boolean) ∈ TB := TB_t 671 (by decide +kernel) (by decide +kernel)
theorem q672 : Cond.methodLink RX4 138 yJ0_length_8abf5 ∈ TB := TB_t 672 (by decide +kernel) (by decide +kernel)
theorem q673 : Cond.instanceMethod yJ0_length_8abf5 ∈ TB := TB_t 673 (by decide +kernel) (by decide +kernel)
theorem q674 : Cond.selects yJ0_length_8abf5.cls yJ0_length_8abf5 yJ0_length_8abf5 ∈ TB := TB_t 674 (by decide +kernel) (by decide +kernel)
theorem q675 : Cond.code yJ0_length_8abf5 cJ0_length_8abf5 1 (some .int) ∈ TB := TB_t 675 (by decide +kernel) (by decide +kernel)
theorem q676 : Cond.methodLink RJ0 335 yJ0_coder_7d493 ∈ TB := TB_t 676 (by decide +kernel) (by decide +kernel)
theorem q677 : Cond.instanceMethod yJ0_coder_7d493 ∈ TB := TB_t 677 (by decide +kernel) (by decide +kernel)
theorem q678 : Cond.selects yJ0_coder_7d493.cls yJ0_coder_7d493 yJ0_coder_7d493 ∈ TB := TB_t 678 (by decide +kernel) (by decide +kernel)
theorem q679 : Cond.code yJ0_coder_7d493 cJ0_coder_7d493 1 (some .byte) ∈ TB := TB_t 679 (by decide +kernel) (by decide +kernel)
theorem q680 : Cond.fieldLink RJ0 38 "java/lang/String" "COMPACT_STRINGS" "Z" ∈ TB := TB_t 680 (by decide +kernel) (by decide +kernel)
theorem q682 : Cond.methodLink RX4 142 yJ0_charAt_5068e ∈ TB := TB_t 682 (by decide +kernel) (by decide +kernel)
theorem q683 : Cond.instanceMethod yJ0_charAt_5068e ∈ TB := TB_t 683 (by decide +kernel) (by decide +kernel)
theorem q684 : Cond.selects yJ0_charAt_5068e.cls yJ0_charAt_5068e yJ0_charAt_5068e ∈ TB := TB_t 684 (by decide +kernel) (by decide +kernel)
theorem q685 : Cond.code yJ0_charAt_5068e cJ0_charAt_5068e 2 (some .char) ∈ TB := TB_t 685 (by decide +kernel) (by decide +kernel)
theorem q686 : Cond.methodLink RJ0 492 yJ0_isLatin1_aae02 ∈ TB := TB_t 686 (by decide +kernel) (by decide +kernel)
theorem q687 : Cond.instanceMethod yJ0_isLatin1_aae02 ∈ TB := TB_t 687 (by decide +kernel) (by decide +kernel)
theorem q688 : Cond.selects yJ0_isLatin1_aae02.cls yJ0_isLatin1_aae02 yJ0_isLatin1_aae02 ∈ TB := TB_t 688 (by decide +kernel) (by decide +kernel)
theorem q689 : Cond.code yJ0_isLatin1_aae02 cJ0_isLatin1_aae02 1 (some .boolean) ∈ TB := TB_t 689 (by decide +kernel) (by decide +kernel)
theorem q690 : Cond.methodLink RJ0 495 yJ1_charAt_3b067 ∈ TB := TB_t 690 (by decide +kernel) (by decide +kernel)
theorem q691 : Cond.static yJ1_charAt_3b067 ∈ TB := TB_t 691 (by decide +kernel) (by decide +kernel)
theorem q692 : Cond.code yJ1_charAt_3b067 cJ1_charAt_3b067 2 (some .char) ∈ TB := TB_t 692 (by decide +kernel) (by decide +kernel)
theorem q693 : Cond.methodLink RJ1 9 yJ0_checkIndex_df160 ∈ TB := TB_t 693 (by decide +kernel) (by decide +kernel)
theorem q694 : Cond.static yJ0_checkIndex_df160 ∈ TB := TB_t 694 (by decide +kernel) (by decide +kernel)
theorem q695 : Cond.code yJ0_checkIndex_df160 cJ0_checkIndex_df160 2 none ∈ TB := TB_t 695 (by decide +kernel) (by decide +kernel)
theorem q696 : Cond.fieldLink RJ0 1053 "jdk/internal/util/Preconditions" "SIOOBE_FORMATTER" "Ljava/util/function/BiFunction;" ∈ TB := TB_t 696 (by decide +kernel) (by decide +kernel)
theorem q698 : Cond.methodLink RJ0 1059 yJ3_checkIndex_8e157 ∈ TB := TB_t 698 (by decide +kernel) (by decide +kernel)
theorem q699 : Cond.static yJ3_checkIndex_8e157 ∈ TB := TB_t 699 (by decide +kernel) (by decide +kernel)
theorem q700 : Cond.code yJ3_checkIndex_8e157 cJ3_checkIndex_8e157 3 (some .int) ∈ TB := TB_t 700 (by decide +kernel) (by decide +kernel)
theorem q722 : Cond.methodLink RX4 45 yX4_readLevel ∈ TB := TB_t 722 (by decide +kernel) (by decide +kernel)
theorem q724 : Cond.instanceMethod yX4_readLevel ∈ TB := TB_t 724 (by decide +kernel) (by decide +kernel)
theorem q725 : Cond.code yX4_readLevel cX4_readLevel 7 none ∈ TB := TB_t 725 (by decide +kernel) (by decide +kernel)
theorem q726 : Cond.methodLink RX4 88 yX4_readPiece ∈ TB := TB_t 726 (by decide +kernel) (by decide +kernel)
theorem q728 : Cond.instanceMethod yX4_readPiece ∈ TB := TB_t 728 (by decide +kernel) (by decide +kernel)
theorem q729 : Cond.code yX4_readPiece cX4_readPiece 3 none ∈ TB := TB_t 729 (by decide +kernel) (by decide +kernel)
theorem q730 : Cond.methodLink RX4 103 yX4_numberRead ∈ TB := TB_t 730 (by decide +kernel) (by decide +kernel)
theorem q732 : Cond.instanceMethod yX4_numberRead ∈ TB := TB_t 732 (by decide +kernel) (by decide +kernel)
theorem q733 : Cond.code yX4_numberRead cX4_numberRead 3 (some .int) ∈ TB := TB_t 733 (by decide +kernel) (by decide +kernel)
theorem q734 : Cond.methodLink RX4 107 yX4_putLeaf ∈ TB := TB_t 734 (by decide +kernel) (by decide +kernel)
theorem q736 : Cond.instanceMethod yX4_putLeaf ∈ TB := TB_t 736 (by decide +kernel) (by decide +kernel)
theorem q737 : Cond.code yX4_putLeaf cX4_putLeaf 2 none ∈ TB := TB_t 737 (by decide +kernel) (by decide +kernel)
theorem q738 : Cond.methodLink RX4 99 yX4_put ∈ TB := TB_t 738 (by decide +kernel) (by decide +kernel)
theorem q740 : Cond.instanceMethod yX4_put ∈ TB := TB_t 740 (by decide +kernel) (by decide +kernel)
theorem q741 : Cond.code yX4_put cX4_put 2 none ∈ TB := TB_t 741 (by decide +kernel) (by decide +kernel)
theorem q742 : Cond.methodLink RX4 110 yX4_firstName ∈ TB := TB_t 742 (by decide +kernel) (by decide +kernel)
theorem q744 : Cond.instanceMethod yX4_firstName ∈ TB := TB_t 744 (by decide +kernel) (by decide +kernel)
theorem q745 : Cond.code yX4_firstName cX4_firstName 1 (some (.object "java/lang/String")) ∈ TB := TB_t 745 (by decide +kernel) (by decide +kernel)
theorem q749 : Cond.methodLink RX4 114 yX4_secondName ∈ TB := TB_t 749 (by decide +kernel) (by decide +kernel)
theorem q751 : Cond.instanceMethod yX4_secondName ∈ TB := TB_t 751 (by decide +kernel) (by decide +kernel)
theorem q752 : Cond.code yX4_secondName cX4_secondName 1 (some (.object "java/lang/String")) ∈ TB := TB_t 752 (by decide +kernel) (by decide +kernel)
theorem q757 : Cond.methodLink RX4 96 yX4_isSignOf ∈ TB := TB_t 757 (by decide +kernel) (by decide +kernel)
theorem q759 : Cond.instanceMethod yX4_isSignOf ∈ TB := TB_t 759 (by decide +kernel) (by decide +kernel)
theorem q760 : Cond.code yX4_isSignOf cX4_isSignOf 2 (some .boolean) ∈ TB := TB_t 760 (by decide +kernel) (by decide +kernel)
theorem q761 : Cond.methodLink RX4 146 yJ0_indexOf_0f7a4 ∈ TB := TB_t 761 (by decide +kernel) (by decide +kernel)
theorem q762 : Cond.instanceMethod yJ0_indexOf_0f7a4 ∈ TB := TB_t 762 (by decide +kernel) (by decide +kernel)
theorem q763 : Cond.selects yJ0_indexOf_0f7a4.cls yJ0_indexOf_0f7a4 yJ0_indexOf_0f7a4 ∈ TB := TB_t 763 (by decide +kernel) (by decide +kernel)
theorem q764 : Cond.code yJ0_indexOf_0f7a4 cJ0_indexOf_0f7a4 2 (some .int) ∈ TB := TB_t 764 (by decide +kernel) (by decide +kernel)
theorem q765 : Cond.methodLink RJ0 633 yJ0_indexOf_7cf53 ∈ TB := TB_t 765 (by decide +kernel) (by decide +kernel)
theorem q766 : Cond.instanceMethod yJ0_indexOf_7cf53 ∈ TB := TB_t 766 (by decide +kernel) (by decide +kernel)
theorem q767 : Cond.selects yJ0_indexOf_7cf53.cls yJ0_indexOf_7cf53 yJ0_indexOf_7cf53 ∈ TB := TB_t 767 (by decide +kernel) (by decide +kernel)
theorem q768 : Cond.code yJ0_indexOf_7cf53 cJ0_indexOf_7cf53 3 (some .int) ∈ TB := TB_t 768 (by decide +kernel) (by decide +kernel)
theorem q769 : Cond.methodLink RJ0 505 yJ0_length_8abf5 ∈ TB := TB_t 769 (by decide +kernel) (by decide +kernel)
theorem q770 : Cond.methodLink RJ0 637 yJ1_indexOf_4cfef ∈ TB := TB_t 770 (by decide +kernel) (by decide +kernel)
theorem q771 : Cond.static yJ1_indexOf_4cfef ∈ TB := TB_t 771 (by decide +kernel) (by decide +kernel)
theorem q772 : Cond.code yJ1_indexOf_4cfef cJ1_indexOf_4cfef 4 (some .int) ∈ TB := TB_t 772 (by decide +kernel) (by decide +kernel)
theorem q773 : Cond.methodLink RJ1 88 yJ1_canEncode_9a6ad ∈ TB := TB_t 773 (by decide +kernel) (by decide +kernel)
theorem q774 : Cond.static yJ1_canEncode_9a6ad ∈ TB := TB_t 774 (by decide +kernel) (by decide +kernel)
theorem q775 : Cond.code yJ1_canEncode_9a6ad cJ1_canEncode_9a6ad 1 (some .boolean) ∈ TB := TB_t 775 (by decide +kernel) (by decide +kernel)
theorem q776 : Cond.methodLink RJ1 92 Lib.Math.max.name ∈ TB := TB_t 776 (by decide +kernel) (by decide +kernel)
theorem q777 : Cond.methodLink RJ1 38 Lib.Math.min.name ∈ TB := TB_t 777 (by decide +kernel) (by decide +kernel)
theorem q778 : Cond.methodLink RJ1 95 yJ1_indexOfChar_4cfef ∈ TB := TB_t 778 (by decide +kernel) (by decide +kernel)
theorem q779 : Cond.static yJ1_indexOfChar_4cfef ∈ TB := TB_t 779 (by decide +kernel) (by decide +kernel)
theorem q780 : Cond.code yJ1_indexOfChar_4cfef cJ1_indexOfChar_4cfef 6 (some .int) ∈ TB := TB_t 780 (by decide +kernel) (by decide +kernel)
theorem q817 : Cond.methodLink RX4 121 yX4_closeBracket ∈ TB := TB_t 817 (by decide +kernel) (by decide +kernel)
theorem q819 : Cond.instanceMethod yX4_closeBracket ∈ TB := TB_t 819 (by decide +kernel) (by decide +kernel)
theorem q820 : Cond.code yX4_closeBracket cX4_closeBracket 1 none ∈ TB := TB_t 820 (by decide +kernel) (by decide +kernel)
theorem q822 : Cond.methodLink RX4 92 yX4_signsOf ∈ TB := TB_t 822 (by decide +kernel) (by decide +kernel)
theorem q823 : Cond.static yX4_signsOf ∈ TB := TB_t 823 (by decide +kernel) (by decide +kernel)
theorem q824 : Cond.code yX4_signsOf cX4_signsOf 1 (some (.object "java/lang/String")) ∈ TB := TB_t 824 (by decide +kernel) (by decide +kernel)
theorem q853 : Cond.fieldLink RX5 45 (TX3 0).1 (TX3 0).2.1 (TX3 0).2.2.1 ∈ TB := TB_t 853 (by decide +kernel) (by decide +kernel)
theorem q854 : Cond.fieldLink RX9 256 (TX3 0).1 (TX3 0).2.1 (TX3 0).2.2.1 ∈ TB := TB_t 854 (by decide +kernel) (by decide +kernel)
theorem q856 : Cond.fieldLink RX9 261 (TX3 1).1 (TX3 1).2.1 (TX3 1).2.2.1 ∈ TB := TB_t 856 (by decide +kernel) (by decide +kernel)
theorem q857 : Cond.fieldLink RX3 16 (TX3 2).1 (TX3 2).2.1 (TX3 2).2.2.1 ∈ TB := TB_t 857 (by decide +kernel) (by decide +kernel)
theorem q873 : Cond.methodLink RX9 252 yX5_lawAt ∈ TB := TB_t 873 (by decide +kernel) (by decide +kernel)
theorem q882 : Cond.methodLink RX9 267 yX6_become ∈ TB := TB_t 882 (by decide +kernel) (by decide +kernel)
theorem q883 : Cond.instanceMethod yX6_become ∈ TB := TB_t 883 (by decide +kernel) (by decide +kernel)
theorem q884 : Cond.selects yX6_become.cls yX6_become yX6_become ∈ TB := TB_t 884 (by decide +kernel) (by decide +kernel)
theorem q885 : Cond.code yX6_become cX6_become 3 none ∈ TB := TB_t 885 (by decide +kernel) (by decide +kernel)
theorem q886 : Cond.methodLink RX6 22 yJ7_fill_53178 ∈ TB := TB_t 886 (by decide +kernel) (by decide +kernel)
theorem q887 : Cond.constant RX9 271 (-1000000014) ∈ TB := TB_t 887 (by decide +kernel) (by decide +kernel)
theorem q892 : Cond.methodLink RX9 272 yX6_has ∈ TB := TB_t 892 (by decide +kernel) (by decide +kernel)
theorem q893 : Cond.constant RX9 273 (-1000000013) ∈ TB := TB_t 893 (by decide +kernel) (by decide +kernel)
theorem q894 : Cond.constant RX9 280 (-99999) ∈ TB := TB_t 894 (by decide +kernel) (by decide +kernel)
theorem q895 : Cond.constant RX9 281 99999 ∈ TB := TB_t 895 (by decide +kernel) (by decide +kernel)
theorem q900 : Cond.methodLink RX9 282 yX6_hasNumber ∈ TB := TB_t 900 (by decide +kernel) (by decide +kernel)
theorem q901 : Cond.methodLink RX9 285 yX9_heldWithin ∈ TB := TB_t 901 (by decide +kernel) (by decide +kernel)
theorem q910 : Cond.methodLink RX9 290 yX6_hasRange ∈ TB := TB_t 910 (by decide +kernel) (by decide +kernel)
theorem q911 : Cond.instanceMethod yX6_hasRange ∈ TB := TB_t 911 (by decide +kernel) (by decide +kernel)
theorem q912 : Cond.selects yX6_hasRange.cls yX6_hasRange yX6_hasRange ∈ TB := TB_t 912 (by decide +kernel) (by decide +kernel)
theorem q913 : Cond.code yX6_hasRange cX6_hasRange 3 (some .boolean) ∈ TB := TB_t 913 (by decide +kernel) (by decide +kernel)
theorem q914 : Cond.methodLink RX9 293 arraycopyName ∈ TB := TB_t 914 (by decide +kernel) (by decide +kernel)
theorem q919 : Cond.methodLink RX9 299 yX9_isSlot ∈ TB := TB_t 919 (by decide +kernel) (by decide +kernel)
theorem q920 : Cond.static yX9_isSlot ∈ TB := TB_t 920 (by decide +kernel) (by decide +kernel)
theorem q921 : Cond.code yX9_isSlot cX9_isSlot 1 (some .boolean) ∈ TB := TB_t 921 (by decide +kernel) (by decide +kernel)
theorem q922 : Cond.methodLink RX9 302 yX9_canLay ∈ TB := TB_t 922 (by decide +kernel) (by decide +kernel)
theorem q924 : Cond.instanceMethod yX9_canLay ∈ TB := TB_t 924 (by decide +kernel) (by decide +kernel)
theorem q925 : Cond.code yX9_canLay cX9_canLay 3 (some .boolean) ∈ TB := TB_t 925 (by decide +kernel) (by decide +kernel)
theorem q926 : Cond.methodLink RX9 316 yX6_takeFrom ∈ TB := TB_t 926 (by decide +kernel) (by decide +kernel)
theorem q927 : Cond.instanceMethod yX6_takeFrom ∈ TB := TB_t 927 (by decide +kernel) (by decide +kernel)
theorem q928 : Cond.selects yX6_takeFrom.cls yX6_takeFrom yX6_takeFrom ∈ TB := TB_t 928 (by decide +kernel) (by decide +kernel)
theorem q929 : Cond.code yX6_takeFrom cX6_takeFrom 2 none ∈ TB := TB_t 929 (by decide +kernel) (by decide +kernel)
theorem q930 : Cond.methodLink RX6 28 arraycopyName ∈ TB := TB_t 930 (by decide +kernel) (by decide +kernel)
theorem q943 : Cond.constant RX9 323 (-1000000002) ∈ TB := TB_t 943 (by decide +kernel) (by decide +kernel)
theorem q952 : Cond.methodLink RX9 331 yX8_rightOnes ∈ TB := TB_t 952 (by decide +kernel) (by decide +kernel)
theorem q953 : Cond.instanceMethod yX8_rightOnes ∈ TB := TB_t 953 (by decide +kernel) (by decide +kernel)
theorem q954 : Cond.selects yX8_rightOnes.cls yX8_rightOnes yX8_rightOnes ∈ TB := TB_t 954 (by decide +kernel) (by decide +kernel)
theorem q955 : Cond.code yX8_rightOnes cX8_rightOnes 8 (some .int) ∈ TB := TB_t 955 (by decide +kernel) (by decide +kernel)
theorem q956 : Cond.methodLink RX8 113 yX1_minutesLeft ∈ TB := TB_t 956 (by decide +kernel) (by decide +kernel)
theorem q957 : Cond.methodLink RX8 116 Lib.Math.min.name ∈ TB := TB_t 957 (by decide +kernel) (by decide +kernel)
theorem q958 : Cond.methodLink RX8 120 yX1_airOfAll ∈ TB := TB_t 958 (by decide +kernel) (by decide +kernel)
theorem q963 : Cond.methodLink RX9 335 yX1_takeFrom ∈ TB := TB_t 963 (by decide +kernel) (by decide +kernel)
theorem q1442 : Cond.fieldLink RJ0 9 "java/lang/String" "value" "[B" ∈ TB := TB_t 1442 (by decide +kernel) (by decide +kernel)
theorem q1443 : Cond.fieldLink RJ0 15 "java/lang/String" "coder" "B" ∈ TB := TB_t 1443 (by decide +kernel) (by decide +kernel)
theorem i_X0 : ∀ w ∈ u_ws RX0 TX0 6, w ∈ TB := by
  have h : (u_ws RX0 TX0 6).all (fun w => decide (w ∈ tables_1) && goodWord w) = true := by decide +kernel
  intro w hw
  have h1 := List.all_eq_true.mp h w hw
  rw [Bool.and_eq_true, decide_eq_true_eq] at h1
  exact List.mem_filter.mpr ⟨List.mem_append_right _ h1.1, h1.2⟩
theorem i_X1 : ∀ w ∈ u_ws RX1 TX1 12, w ∈ TB := by
  have h : (u_ws RX1 TX1 12).all (fun w => decide (w ∈ tables_1) && goodWord w) = true := by decide +kernel
  intro w hw
  have h1 := List.all_eq_true.mp h w hw
  rw [Bool.and_eq_true, decide_eq_true_eq] at h1
  exact List.mem_filter.mpr ⟨List.mem_append_right _ h1.1, h1.2⟩
theorem i_X3 : ∀ w ∈ u_ws RX3 TX3 3, w ∈ TB := by
  have h : (u_ws RX3 TX3 3).all (fun w => decide (w ∈ tables_1) && goodWord w) = true := by decide +kernel
  intro w hw
  have h1 := List.all_eq_true.mp h w hw
  rw [Bool.and_eq_true, decide_eq_true_eq] at h1
  exact List.mem_filter.mpr ⟨List.mem_append_right _ h1.1, h1.2⟩
theorem i_X4 : ∀ w ∈ u_ws RX4 TX4 10, w ∈ TB := by
  have h : (u_ws RX4 TX4 10).all (fun w => decide (w ∈ tables_1) && goodWord w) = true := by decide +kernel
  intro w hw
  have h1 := List.all_eq_true.mp h w hw
  rw [Bool.and_eq_true, decide_eq_true_eq] at h1
  exact List.mem_filter.mpr ⟨List.mem_append_right _ h1.1, h1.2⟩
theorem i_X5 : ∀ w ∈ u_ws RX5 TX5 5, w ∈ TB := by
  have h : (u_ws RX5 TX5 5).all (fun w => decide (w ∈ tables_1) && goodWord w) = true := by decide +kernel
  intro w hw
  have h1 := List.all_eq_true.mp h w hw
  rw [Bool.and_eq_true, decide_eq_true_eq] at h1
  exact List.mem_filter.mpr ⟨List.mem_append_right _ h1.1, h1.2⟩
theorem i_X6 : ∀ w ∈ u_ws RX6 TX6 3, w ∈ TB := by
  have h : (u_ws RX6 TX6 3).all (fun w => decide (w ∈ tables_1) && goodWord w) = true := by decide +kernel
  intro w hw
  have h1 := List.all_eq_true.mp h w hw
  rw [Bool.and_eq_true, decide_eq_true_eq] at h1
  exact List.mem_filter.mpr ⟨List.mem_append_right _ h1.1, h1.2⟩
theorem i_X7 : ∀ w ∈ u_ws RX7 TX7 5, w ∈ TB := by
  have h : (u_ws RX7 TX7 5).all (fun w => decide (w ∈ tables_1) && goodWord w) = true := by decide +kernel
  intro w hw
  have h1 := List.all_eq_true.mp h w hw
  rw [Bool.and_eq_true, decide_eq_true_eq] at h1
  exact List.mem_filter.mpr ⟨List.mem_append_right _ h1.1, h1.2⟩
theorem i_X8 : ∀ w ∈ u_ws RX8 TX8 1, w ∈ TB := by
  have h : (u_ws RX8 TX8 1).all (fun w => decide (w ∈ tables_1) && goodWord w) = true := by decide +kernel
  intro w hw
  have h1 := List.all_eq_true.mp h w hw
  rw [Bool.and_eq_true, decide_eq_true_eq] at h1
  exact List.mem_filter.mpr ⟨List.mem_append_right _ h1.1, h1.2⟩
theorem i_X9 : ∀ w ∈ u_ws RX9 TX9 9, w ∈ TB := by
  have h : (u_ws RX9 TX9 9).all (fun w => decide (w ∈ tables_1) && goodWord w) = true := by decide +kernel
  intro w hw
  have h1 := List.all_eq_true.mp h w hw
  rw [Bool.and_eq_true, decide_eq_true_eq] at h1
  exact List.mem_filter.mpr ⟨List.mem_append_right _ h1.1, h1.2⟩
theorem gC_X0_9 {x : En} {E : Amd} {D : va_G} {ca : Nat → ClassId} {h : Nat → Nat} {nl : Nat} {cc : ByteArray} {nL fr lo : Nat} {M : Mem} {pc : Nat} {V : List (Option Value)} {rest : List Value} {b : Nat} (hb : b < 3) (K : Kx x E D (tysOf ca) h (LaC ca h nl) RX0 cc nL fr lo) (hd : decode cc pc = .ok (.getfield 9, 3)) (kk : Go x D (tysOf ca) h (LaC ca h nl) nL M (pc + 3) V (.ref (h (HB b + 2)) :: rest)) : Go x D (tysOf ca) h (LaC ca h nl) nL M (pc) V (.ref (h (HB b + 1)) :: rest) := o_get K 2 (ltDoors hb) (obDoors_c (ca := ca) hb _) rfl (by decide) i_X0 q49 rfl rfl hd kk
theorem gC_X0_13 {x : En} {E : Amd} {D : va_G} {ca : Nat → ClassId} {h : Nat → Nat} {nl : Nat} {cc : ByteArray} {nL fr lo : Nat} {M : Mem} {pc : Nat} {V : List (Option Value)} {rest : List Value} {b : Nat} (hb : b < 3) (K : Kx x E D (tysOf ca) h (LaC ca h nl) RX0 cc nL fr lo) (hd : decode cc pc = .ok (.getfield 13, 3)) (kk : Go x D (tysOf ca) h (LaC ca h nl) nL M (pc + 3) V (.ref (h (HB b + 3)) :: rest)) : Go x D (tysOf ca) h (LaC ca h nl) nL M (pc) V (.ref (h (HB b + 1)) :: rest) := o_get K 3 (ltDoors hb) (obDoors_c (ca := ca) hb _) rfl (by decide) i_X0 q52 rfl rfl hd kk
theorem gC_X0_16 {x : En} {E : Amd} {D : va_G} {ca : Nat → ClassId} {h : Nat → Nat} {nl : Nat} {cc : ByteArray} {nL fr lo : Nat} {M : Mem} {pc : Nat} {V : List (Option Value)} {rest : List Value} {b : Nat} (hb : b < 3) (K : Kx x E D (tysOf ca) h (LaC ca h nl) RX0 cc nL fr lo) (hd : decode cc pc = .ok (.getfield 16, 3)) (kk : Go x D (tysOf ca) h (LaC ca h nl) nL M (pc + 3) V (.ref (h (HB b + 4)) :: rest)) : Go x D (tysOf ca) h (LaC ca h nl) nL M (pc) V (.ref (h (HB b + 1)) :: rest) := o_get K 4 (ltDoors hb) (obDoors_c (ca := ca) hb _) rfl (by decide) i_X0 q55 rfl rfl hd kk
theorem gC_X0_19 {x : En} {E : Amd} {D : va_G} {ca : Nat → ClassId} {h : Nat → Nat} {nl : Nat} {cc : ByteArray} {nL fr lo : Nat} {M : Mem} {pc : Nat} {V : List (Option Value)} {rest : List Value} {b : Nat} (hb : b < 3) (K : Kx x E D (tysOf ca) h (LaC ca h nl) RX0 cc nL fr lo) (hd : decode cc pc = .ok (.getfield 19, 3)) (kk : Go x D (tysOf ca) h (LaC ca h nl) nL M (pc + 3) V (.ref (h (HB b + 5)) :: rest)) : Go x D (tysOf ca) h (LaC ca h nl) nL M (pc) V (.ref (h (HB b + 1)) :: rest) := o_get K 5 (ltDoors hb) (obDoors_c (ca := ca) hb _) rfl (by decide) i_X0 q58 rfl rfl hd kk
theorem gC_X0_22 {x : En} {E : Amd} {D : va_G} {ca : Nat → ClassId} {h : Nat → Nat} {nl : Nat} {cc : ByteArray} {nL fr lo : Nat} {M : Mem} {pc : Nat} {V : List (Option Value)} {rest : List Value} {b : Nat} (hb : b < 3) (K : Kx x E D (tysOf ca) h (LaC ca h nl) RX0 cc nL fr lo) (hd : decode cc pc = .ok (.getfield 22, 3)) (kk : Go x D (tysOf ca) h (LaC ca h nl) nL M (pc + 3) V (.int (M (HB b + 1) 0) :: rest)) : Go x D (tysOf ca) h (LaC ca h nl) nL M (pc) V (.ref (h (HB b + 1)) :: rest) := o_get K 0 (ltDoors hb) (obDoors_c (ca := ca) hb _) rfl (by decide) i_X0 q41 rfl rfl hd kk
theorem gC_X0_26 {x : En} {E : Amd} {D : va_G} {ca : Nat → ClassId} {h : Nat → Nat} {nl : Nat} {cc : ByteArray} {nL fr lo : Nat} {M : Mem} {pc : Nat} {V : List (Option Value)} {rest : List Value} {b : Nat} (hb : b < 3) (K : Kx x E D (tysOf ca) h (LaC ca h nl) RX0 cc nL fr lo) (hd : decode cc pc = .ok (.getfield 26, 3)) (kk : Go x D (tysOf ca) h (LaC ca h nl) nL M (pc + 3) V (.int (M (HB b + 1) 1) :: rest)) : Go x D (tysOf ca) h (LaC ca h nl) nL M (pc) V (.ref (h (HB b + 1)) :: rest) := o_get K 1 (ltDoors hb) (obDoors_c (ca := ca) hb _) rfl (by decide) i_X0 q45 rfl rfl hd kk
theorem gC_X1_12 {x : En} {E : Amd} {D : va_G} {ca : Nat → ClassId} {h : Nat → Nat} {nl : Nat} {cc : ByteArray} {nL fr lo : Nat} {M : Mem} {pc : Nat} {V : List (Option Value)} {rest : List Value} {b : Nat} (hb : b < 3) (K : Kx x E D (tysOf ca) h (LaC ca h nl) RX1 cc nL fr lo) (hd : decode cc pc = .ok (.getfield 12, 3)) (kk : Go x D (tysOf ca) h (LaC ca h nl) nL M (pc + 3) V (.ref (h (HB b + 1)) :: rest)) : Go x D (tysOf ca) h (LaC ca h nl) nL M (pc) V (.ref (h (HB b)) :: rest) := o_get K 0 (ltHall hb) (obHall_c (ca := ca) hb _) rfl (by decide) i_X1 q140 rfl rfl hd kk
theorem gC_X1_21 {x : En} {E : Amd} {D : va_G} {ca : Nat → ClassId} {h : Nat → Nat} {nl : Nat} {cc : ByteArray} {nL fr lo : Nat} {M : Mem} {pc : Nat} {V : List (Option Value)} {rest : List Value} {b : Nat} (hb : b < 3) (K : Kx x E D (tysOf ca) h (LaC ca h nl) RX1 cc nL fr lo) (hd : decode cc pc = .ok (.getfield 21, 3)) (kk : Go x D (tysOf ca) h (LaC ca h nl) nL M (pc + 3) V (.ref (h (HB b + 6)) :: rest)) : Go x D (tysOf ca) h (LaC ca h nl) nL M (pc) V (.ref (h (HB b)) :: rest) := o_get K 1 (ltHall hb) (obHall_c (ca := ca) hb _) rfl (by decide) i_X1 q143 rfl rfl hd kk
theorem gC_X1_25 {x : En} {E : Amd} {D : va_G} {ca : Nat → ClassId} {h : Nat → Nat} {nl : Nat} {cc : ByteArray} {nL fr lo : Nat} {M : Mem} {pc : Nat} {V : List (Option Value)} {rest : List Value} {b : Nat} (hb : b < 3) (K : Kx x E D (tysOf ca) h (LaC ca h nl) RX1 cc nL fr lo) (hd : decode cc pc = .ok (.getfield 25, 3)) (kk : Go x D (tysOf ca) h (LaC ca h nl) nL M (pc + 3) V (.ref (h (HB b + 11)) :: rest)) : Go x D (tysOf ca) h (LaC ca h nl) nL M (pc) V (.ref (h (HB b)) :: rest) := o_get K 2 (ltHall hb) (obHall_c (ca := ca) hb _) rfl (by decide) i_X1 q145 rfl rfl hd kk
theorem gC_X1_29 {x : En} {E : Amd} {D : va_G} {ca : Nat → ClassId} {h : Nat → Nat} {nl : Nat} {cc : ByteArray} {nL fr lo : Nat} {M : Mem} {pc : Nat} {V : List (Option Value)} {rest : List Value} {b : Nat} (hb : b < 3) (K : Kx x E D (tysOf ca) h (LaC ca h nl) RX1 cc nL fr lo) (hd : decode cc pc = .ok (.getfield 29, 3)) (kk : Go x D (tysOf ca) h (LaC ca h nl) nL M (pc + 3) V (.ref (h (HB b + 12)) :: rest)) : Go x D (tysOf ca) h (LaC ca h nl) nL M (pc) V (.ref (h (HB b)) :: rest) := o_get K 3 (ltHall hb) (obHall_c (ca := ca) hb _) rfl (by decide) i_X1 q148 rfl rfl hd kk
theorem gC_X1_32 {x : En} {E : Amd} {D : va_G} {ca : Nat → ClassId} {h : Nat → Nat} {nl : Nat} {cc : ByteArray} {nL fr lo : Nat} {M : Mem} {pc : Nat} {V : List (Option Value)} {rest : List Value} {b : Nat} (hb : b < 3) (K : Kx x E D (tysOf ca) h (LaC ca h nl) RX1 cc nL fr lo) (hd : decode cc pc = .ok (.getfield 32, 3)) (kk : Go x D (tysOf ca) h (LaC ca h nl) nL M (pc + 3) V (.ref (h (HB b + 13)) :: rest)) : Go x D (tysOf ca) h (LaC ca h nl) nL M (pc) V (.ref (h (HB b)) :: rest) := o_get K 4 (ltHall hb) (obHall_c (ca := ca) hb _) rfl (by decide) i_X1 q150 rfl rfl hd kk
theorem gC_X1_35 {x : En} {E : Amd} {D : va_G} {ca : Nat → ClassId} {h : Nat → Nat} {nl : Nat} {cc : ByteArray} {nL fr lo : Nat} {M : Mem} {pc : Nat} {V : List (Option Value)} {rest : List Value} {b : Nat} (hb : b < 3) (K : Kx x E D (tysOf ca) h (LaC ca h nl) RX1 cc nL fr lo) (hd : decode cc pc = .ok (.getfield 35, 3)) (kk : Go x D (tysOf ca) h (LaC ca h nl) nL M (pc + 3) V (.int (M (HB b) 8) :: rest)) : Go x D (tysOf ca) h (LaC ca h nl) nL M (pc) V (.ref (h (HB b)) :: rest) := o_get K 8 (ltHall hb) (obHall_c (ca := ca) hb _) rfl (by decide) i_X1 q160 rfl rfl hd kk
theorem gC_X1_39 {x : En} {E : Amd} {D : va_G} {ca : Nat → ClassId} {h : Nat → Nat} {nl : Nat} {cc : ByteArray} {nL fr lo : Nat} {M : Mem} {pc : Nat} {V : List (Option Value)} {rest : List Value} {b : Nat} (hb : b < 3) (K : Kx x E D (tysOf ca) h (LaC ca h nl) RX1 cc nL fr lo) (hd : decode cc pc = .ok (.getfield 39, 3)) (kk : Go x D (tysOf ca) h (LaC ca h nl) nL M (pc + 3) V (.ref (h (HB b + 14)) :: rest)) : Go x D (tysOf ca) h (LaC ca h nl) nL M (pc) V (.ref (h (HB b)) :: rest) := o_get K 9 (ltHall hb) (obHall_c (ca := ca) hb _) rfl (by decide) i_X1 q162 rfl rfl hd kk
theorem gC_X1_42 {x : En} {E : Amd} {D : va_G} {ca : Nat → ClassId} {h : Nat → Nat} {nl : Nat} {cc : ByteArray} {nL fr lo : Nat} {M : Mem} {pc : Nat} {V : List (Option Value)} {rest : List Value} {b : Nat} (hb : b < 3) (K : Kx x E D (tysOf ca) h (LaC ca h nl) RX1 cc nL fr lo) (hd : decode cc pc = .ok (.getfield 42, 3)) (kk : Go x D (tysOf ca) h (LaC ca h nl) nL M (pc + 3) V (.ref (h (HB b + 15)) :: rest)) : Go x D (tysOf ca) h (LaC ca h nl) nL M (pc) V (.ref (h (HB b)) :: rest) := o_get K 10 (ltHall hb) (obHall_c (ca := ca) hb _) rfl (by decide) i_X1 q163 rfl rfl hd kk
theorem gC_X1_45 {x : En} {E : Amd} {D : va_G} {ca : Nat → ClassId} {h : Nat → Nat} {nl : Nat} {cc : ByteArray} {nL fr lo : Nat} {M : Mem} {pc : Nat} {V : List (Option Value)} {rest : List Value} {b : Nat} (hb : b < 3) (K : Kx x E D (tysOf ca) h (LaC ca h nl) RX1 cc nL fr lo) (hd : decode cc pc = .ok (.getfield 45, 3)) (kk : Go x D (tysOf ca) h (LaC ca h nl) nL M (pc + 3) V (.ref (h (HB b + 16)) :: rest)) : Go x D (tysOf ca) h (LaC ca h nl) nL M (pc) V (.ref (h (HB b)) :: rest) := o_get K 11 (ltHall hb) (obHall_c (ca := ca) hb _) rfl (by decide) i_X1 q165 rfl rfl hd kk
theorem gC_X1_71 {x : En} {E : Amd} {D : va_G} {ca : Nat → ClassId} {h : Nat → Nat} {nl : Nat} {cc : ByteArray} {nL fr lo : Nat} {M : Mem} {pc : Nat} {V : List (Option Value)} {rest : List Value} {b : Nat} (hb : b < 3) (K : Kx x E D (tysOf ca) h (LaC ca h nl) RX1 cc nL fr lo) (hd : decode cc pc = .ok (.getfield 71, 3)) (kk : Go x D (tysOf ca) h (LaC ca h nl) nL M (pc + 3) V (.int (M (HB b) 5) :: rest)) : Go x D (tysOf ca) h (LaC ca h nl) nL M (pc) V (.ref (h (HB b)) :: rest) := o_get K 5 (ltHall hb) (obHall_c (ca := ca) hb _) rfl (by decide) i_X1 q153 rfl rfl hd kk
theorem gC_X1_74 {x : En} {E : Amd} {D : va_G} {ca : Nat → ClassId} {h : Nat → Nat} {nl : Nat} {cc : ByteArray} {nL fr lo : Nat} {M : Mem} {pc : Nat} {V : List (Option Value)} {rest : List Value} {b : Nat} (hb : b < 3) (K : Kx x E D (tysOf ca) h (LaC ca h nl) RX1 cc nL fr lo) (hd : decode cc pc = .ok (.getfield 74, 3)) (kk : Go x D (tysOf ca) h (LaC ca h nl) nL M (pc + 3) V (.int (M (HB b) 6) :: rest)) : Go x D (tysOf ca) h (LaC ca h nl) nL M (pc) V (.ref (h (HB b)) :: rest) := o_get K 6 (ltHall hb) (obHall_c (ca := ca) hb _) rfl (by decide) i_X1 q156 rfl rfl hd kk
theorem gC_X1_77 {x : En} {E : Amd} {D : va_G} {ca : Nat → ClassId} {h : Nat → Nat} {nl : Nat} {cc : ByteArray} {nL fr lo : Nat} {M : Mem} {pc : Nat} {V : List (Option Value)} {rest : List Value} {b : Nat} (hb : b < 3) (K : Kx x E D (tysOf ca) h (LaC ca h nl) RX1 cc nL fr lo) (hd : decode cc pc = .ok (.getfield 77, 3)) (kk : Go x D (tysOf ca) h (LaC ca h nl) nL M (pc + 3) V (.int (M (HB b) 7) :: rest)) : Go x D (tysOf ca) h (LaC ca h nl) nL M (pc) V (.ref (h (HB b)) :: rest) := o_get K 7 (ltHall hb) (obHall_c (ca := ca) hb _) rfl (by decide) i_X1 q158 rfl rfl hd kk
theorem gC_X1_92 {x : En} {E : Amd} {D : va_G} {ca : Nat → ClassId} {h : Nat → Nat} {nl : Nat} {cc : ByteArray} {nL fr lo : Nat} {M : Mem} {pc : Nat} {V : List (Option Value)} {rest : List Value} {b : Nat} (hb : b < 3) (K : Kx x E D (tysOf ca) h (LaC ca h nl) RX1 cc nL fr lo) (hd : decode cc pc = .ok (.getfield 92, 3)) (kk : Go x D (tysOf ca) h (LaC ca h nl) nL M (pc + 3) V (.ref (h (HB b + 2)) :: rest)) : Go x D (tysOf ca) h (LaC ca h nl) nL M (pc) V (.ref (h (HB b + 1)) :: rest) := o_get K 2 (ltDoors hb) (obDoors_c (ca := ca) hb _) rfl (by decide) i_X0 q51 rfl rfl hd kk
theorem gC_X1_95 {x : En} {E : Amd} {D : va_G} {ca : Nat → ClassId} {h : Nat → Nat} {nl : Nat} {cc : ByteArray} {nL fr lo : Nat} {M : Mem} {pc : Nat} {V : List (Option Value)} {rest : List Value} {b : Nat} (hb : b < 3) (K : Kx x E D (tysOf ca) h (LaC ca h nl) RX1 cc nL fr lo) (hd : decode cc pc = .ok (.getfield 95, 3)) (kk : Go x D (tysOf ca) h (LaC ca h nl) nL M (pc + 3) V (.ref (h (HB b + 5)) :: rest)) : Go x D (tysOf ca) h (LaC ca h nl) nL M (pc) V (.ref (h (HB b + 1)) :: rest) := o_get K 5 (ltDoors hb) (obDoors_c (ca := ca) hb _) rfl (by decide) i_X0 q60 rfl rfl hd kk
theorem gC_X1_98 {x : En} {E : Amd} {D : va_G} {ca : Nat → ClassId} {h : Nat → Nat} {nl : Nat} {cc : ByteArray} {nL fr lo : Nat} {M : Mem} {pc : Nat} {V : List (Option Value)} {rest : List Value} {b : Nat} (hb : b < 3) (K : Kx x E D (tysOf ca) h (LaC ca h nl) RX1 cc nL fr lo) (hd : decode cc pc = .ok (.getfield 98, 3)) (kk : Go x D (tysOf ca) h (LaC ca h nl) nL M (pc + 3) V (.int (M (HB b + 1) 1) :: rest)) : Go x D (tysOf ca) h (LaC ca h nl) nL M (pc) V (.ref (h (HB b + 1)) :: rest) := o_get K 1 (ltDoors hb) (obDoors_c (ca := ca) hb _) rfl (by decide) i_X0 q47 rfl rfl hd kk
theorem gC_X1_105 {x : En} {E : Amd} {D : va_G} {ca : Nat → ClassId} {h : Nat → Nat} {nl : Nat} {cc : ByteArray} {nL fr lo : Nat} {M : Mem} {pc : Nat} {V : List (Option Value)} {rest : List Value} {b : Nat} (hb : b < 3) (K : Kx x E D (tysOf ca) h (LaC ca h nl) RX1 cc nL fr lo) (hd : decode cc pc = .ok (.getfield 105, 3)) (kk : Go x D (tysOf ca) h (LaC ca h nl) nL M (pc + 3) V (.ref (h (HB b + 3)) :: rest)) : Go x D (tysOf ca) h (LaC ca h nl) nL M (pc) V (.ref (h (HB b + 1)) :: rest) := o_get K 3 (ltDoors hb) (obDoors_c (ca := ca) hb _) rfl (by decide) i_X0 q54 rfl rfl hd kk
theorem gC_X1_108 {x : En} {E : Amd} {D : va_G} {ca : Nat → ClassId} {h : Nat → Nat} {nl : Nat} {cc : ByteArray} {nL fr lo : Nat} {M : Mem} {pc : Nat} {V : List (Option Value)} {rest : List Value} {b : Nat} (hb : b < 3) (K : Kx x E D (tysOf ca) h (LaC ca h nl) RX1 cc nL fr lo) (hd : decode cc pc = .ok (.getfield 108, 3)) (kk : Go x D (tysOf ca) h (LaC ca h nl) nL M (pc + 3) V (.ref (h (HB b + 4)) :: rest)) : Go x D (tysOf ca) h (LaC ca h nl) nL M (pc) V (.ref (h (HB b + 1)) :: rest) := o_get K 4 (ltDoors hb) (obDoors_c (ca := ca) hb _) rfl (by decide) i_X0 q57 rfl rfl hd kk
theorem gC_X1_116 {x : En} {E : Amd} {D : va_G} {ca : Nat → ClassId} {h : Nat → Nat} {nl : Nat} {cc : ByteArray} {nL fr lo : Nat} {M : Mem} {pc : Nat} {V : List (Option Value)} {rest : List Value} {b : Nat} (hb : b < 3) (K : Kx x E D (tysOf ca) h (LaC ca h nl) RX1 cc nL fr lo) (hd : decode cc pc = .ok (.getfield 116, 3)) (kk : Go x D (tysOf ca) h (LaC ca h nl) nL M (pc + 3) V (.int (M (HB b + 1) 0) :: rest)) : Go x D (tysOf ca) h (LaC ca h nl) nL M (pc) V (.ref (h (HB b + 1)) :: rest) := o_get K 0 (ltDoors hb) (obDoors_c (ca := ca) hb _) rfl (by decide) i_X0 q44 rfl rfl hd kk
theorem gC_X3_16 {x : En} {E : Amd} {D : va_G} {ca : Nat → ClassId} {h : Nat → Nat} {nl : Nat} {cc : ByteArray} {nL fr lo : Nat} {M : Mem} {pc : Nat} {V : List (Option Value)} {rest : List Value} {c : Nat} (hc : 1 ≤ c ∧ c ≤ nl) (K : Kx x E D (tysOf ca) h (LaC ca h nl) RX3 cc nL fr lo) (hd : decode cc pc = .ok (.getfield 16, 3)) (kk : Go x D (tysOf ca) h (LaC ca h nl) nL M (pc + 3) V (.ref (h (81 + 2 * c)) :: rest)) : Go x D (tysOf ca) h (LaC ca h nl) nL M (pc) V (.ref (h (80 + 2 * c)) :: rest) := o_get K 2 (ltLaw hc) (obLaw_c (ca := ca) hc _) rfl (by decide) i_X3 q857 rfl rfl hd kk
theorem gC_X4_9 {x : En} {E : Amd} {D : va_G} {ca : Nat → ClassId} {h : Nat → Nat} {nl : Nat} {cc : ByteArray} {nL fr lo : Nat} {M : Mem} {pc : Nat} {V : List (Option Value)} {rest : List Value} (K : Kx x E D (tysOf ca) h (LaC ca h nl) RX4 cc nL fr lo) (hd : decode cc pc = .ok (.getfield 9, 3)) (kk : Go x D (tysOf ca) h (LaC ca h nl) nL M (pc + 3) V (.ref (h 53) :: rest)) : Go x D (tysOf ca) h (LaC ca h nl) nL M (pc) V (.ref (h 54) :: rest) := o_get K 0 (ltReader) (obReader_c (ca := ca) _) rfl (by decide) i_X4 q209 rfl rfl hd kk
theorem gC_X4_15 {x : En} {E : Amd} {D : va_G} {ca : Nat → ClassId} {h : Nat → Nat} {nl : Nat} {cc : ByteArray} {nL fr lo : Nat} {M : Mem} {pc : Nat} {V : List (Option Value)} {rest : List Value} (K : Kx x E D (tysOf ca) h (LaC ca h nl) RX4 cc nL fr lo) (hd : decode cc pc = .ok (.getfield 15, 3)) (kk : Go x D (tysOf ca) h (LaC ca h nl) nL M (pc + 3) V (.ref (h 55) :: rest)) : Go x D (tysOf ca) h (LaC ca h nl) nL M (pc) V (.ref (h 54) :: rest) := o_get K 7 (ltReader) (obReader_c (ca := ca) _) rfl (by decide) i_X4 q217 rfl rfl hd kk
theorem gC_X4_19 {x : En} {E : Amd} {D : va_G} {ca : Nat → ClassId} {h : Nat → Nat} {nl : Nat} {cc : ByteArray} {nL fr lo : Nat} {M : Mem} {pc : Nat} {V : List (Option Value)} {rest : List Value} (K : Kx x E D (tysOf ca) h (LaC ca h nl) RX4 cc nL fr lo) (hd : decode cc pc = .ok (.getfield 19, 3)) (kk : Go x D (tysOf ca) h (LaC ca h nl) nL M (pc + 3) V (.int (M 54 1) :: rest)) : Go x D (tysOf ca) h (LaC ca h nl) nL M (pc) V (.ref (h 54) :: rest) := o_get K 1 (ltReader) (obReader_c (ca := ca) _) rfl (by decide) i_X4 q210 rfl rfl hd kk
theorem gC_X4_23 {x : En} {E : Amd} {D : va_G} {ca : Nat → ClassId} {h : Nat → Nat} {nl : Nat} {cc : ByteArray} {nL fr lo : Nat} {M : Mem} {pc : Nat} {V : List (Option Value)} {rest : List Value} (K : Kx x E D (tysOf ca) h (LaC ca h nl) RX4 cc nL fr lo) (hd : decode cc pc = .ok (.getfield 23, 3)) (kk : Go x D (tysOf ca) h (LaC ca h nl) nL M (pc + 3) V (.int (M 54 3) :: rest)) : Go x D (tysOf ca) h (LaC ca h nl) nL M (pc) V (.ref (h 54) :: rest) := o_get K 3 (ltReader) (obReader_c (ca := ca) _) rfl (by decide) i_X4 q213 rfl rfl hd kk
theorem gC_X4_26 {x : En} {E : Amd} {D : va_G} {ca : Nat → ClassId} {h : Nat → Nat} {nl : Nat} {cc : ByteArray} {nL fr lo : Nat} {M : Mem} {pc : Nat} {V : List (Option Value)} {rest : List Value} (K : Kx x E D (tysOf ca) h (LaC ca h nl) RX4 cc nL fr lo) (hd : decode cc pc = .ok (.getfield 26, 3)) (kk : Go x D (tysOf ca) h (LaC ca h nl) nL M (pc + 3) V (.int (M 54 4) :: rest)) : Go x D (tysOf ca) h (LaC ca h nl) nL M (pc) V (.ref (h 54) :: rest) := o_get K 4 (ltReader) (obReader_c (ca := ca) _) rfl (by decide) i_X4 q214 rfl rfl hd kk
theorem gC_X4_29 {x : En} {E : Amd} {D : va_G} {ca : Nat → ClassId} {h : Nat → Nat} {nl : Nat} {cc : ByteArray} {nL fr lo : Nat} {M : Mem} {pc : Nat} {V : List (Option Value)} {rest : List Value} (K : Kx x E D (tysOf ca) h (LaC ca h nl) RX4 cc nL fr lo) (hd : decode cc pc = .ok (.getfield 29, 3)) (kk : Go x D (tysOf ca) h (LaC ca h nl) nL M (pc + 3) V (.int (M 54 6) :: rest)) : Go x D (tysOf ca) h (LaC ca h nl) nL M (pc) V (.ref (h 54) :: rest) := o_get K 6 (ltReader) (obReader_c (ca := ca) _) rfl (by decide) i_X4 q216 rfl rfl hd kk
theorem gC_X4_32 {x : En} {E : Amd} {D : va_G} {ca : Nat → ClassId} {h : Nat → Nat} {nl : Nat} {cc : ByteArray} {nL fr lo : Nat} {M : Mem} {pc : Nat} {V : List (Option Value)} {rest : List Value} (K : Kx x E D (tysOf ca) h (LaC ca h nl) RX4 cc nL fr lo) (hd : decode cc pc = .ok (.getfield 32, 3)) (kk : Go x D (tysOf ca) h (LaC ca h nl) nL M (pc + 3) V (.int (M 54 8) :: rest)) : Go x D (tysOf ca) h (LaC ca h nl) nL M (pc) V (.ref (h 54) :: rest) := o_get K 8 (ltReader) (obReader_c (ca := ca) _) rfl (by decide) i_X4 q218 rfl rfl hd kk
theorem gC_X4_36 {x : En} {E : Amd} {D : va_G} {ca : Nat → ClassId} {h : Nat → Nat} {nl : Nat} {cc : ByteArray} {nL fr lo : Nat} {M : Mem} {pc : Nat} {V : List (Option Value)} {rest : List Value} (K : Kx x E D (tysOf ca) h (LaC ca h nl) RX4 cc nL fr lo) (hd : decode cc pc = .ok (.getfield 36, 3)) (kk : Go x D (tysOf ca) h (LaC ca h nl) nL M (pc + 3) V (.int (M 54 9) :: rest)) : Go x D (tysOf ca) h (LaC ca h nl) nL M (pc) V (.ref (h 54) :: rest) := o_get K 9 (ltReader) (obReader_c (ca := ca) _) rfl (by decide) i_X4 q219 rfl rfl hd kk
theorem gC_X4_49 {x : En} {E : Amd} {D : va_G} {ca : Nat → ClassId} {h : Nat → Nat} {nl : Nat} {cc : ByteArray} {nL fr lo : Nat} {M : Mem} {pc : Nat} {V : List (Option Value)} {rest : List Value} (K : Kx x E D (tysOf ca) h (LaC ca h nl) RX4 cc nL fr lo) (hd : decode cc pc = .ok (.getfield 49, 3)) (kk : Go x D (tysOf ca) h (LaC ca h nl) nL M (pc + 3) V (.int (M 54 2) :: rest)) : Go x D (tysOf ca) h (LaC ca h nl) nL M (pc) V (.ref (h 54) :: rest) := o_get K 2 (ltReader) (obReader_c (ca := ca) _) rfl (by decide) i_X4 q212 rfl rfl hd kk
theorem gC_X4_54 {x : En} {E : Amd} {D : va_G} {ca : Nat → ClassId} {h : Nat → Nat} {nl : Nat} {cc : ByteArray} {nL fr lo : Nat} {M : Mem} {pc : Nat} {V : List (Option Value)} {rest : List Value} (K : Kx x E D (tysOf ca) h (LaC ca h nl) RX4 cc nL fr lo) (hd : decode cc pc = .ok (.getfield 54, 3)) (kk : Go x D (tysOf ca) h (LaC ca h nl) nL M (pc + 3) V (.int (M 54 5) :: rest)) : Go x D (tysOf ca) h (LaC ca h nl) nL M (pc) V (.ref (h 54) :: rest) := o_get K 5 (ltReader) (obReader_c (ca := ca) _) rfl (by decide) i_X4 q215 rfl rfl hd kk
theorem gC_X5_16 {x : En} {E : Amd} {D : va_G} {ca : Nat → ClassId} {h : Nat → Nat} {nl : Nat} {cc : ByteArray} {nL fr lo : Nat} {M : Mem} {pc : Nat} {V : List (Option Value)} {rest : List Value} {b : Nat} (hb : b < 3) (K : Kx x E D (tysOf ca) h (LaC ca h nl) RX5 cc nL fr lo) (hd : decode cc pc = .ok (.getfield 16, 3)) (kk : Go x D (tysOf ca) h (LaC ca h nl) nL M (pc + 3) V (.ref (h (HB b + 7)) :: rest)) : Go x D (tysOf ca) h (LaC ca h nl) nL M (pc) V (.ref (h (HB b + 6)) :: rest) := o_get K 1 (ltLaws hb) (obLaws_c (ca := ca) hb _) rfl (by decide) i_X5 q121 rfl rfl hd kk
theorem gC_X5_22 {x : En} {E : Amd} {D : va_G} {ca : Nat → ClassId} {h : Nat → Nat} {nl : Nat} {cc : ByteArray} {nL fr lo : Nat} {M : Mem} {pc : Nat} {V : List (Option Value)} {rest : List Value} {b : Nat} (hb : b < 3) (K : Kx x E D (tysOf ca) h (LaC ca h nl) RX5 cc nL fr lo) (hd : decode cc pc = .ok (.getfield 22, 3)) (kk : Go x D (tysOf ca) h (LaC ca h nl) nL M (pc + 3) V (.ref (h (HB b + 8)) :: rest)) : Go x D (tysOf ca) h (LaC ca h nl) nL M (pc) V (.ref (h (HB b + 6)) :: rest) := o_get K 2 (ltLaws hb) (obLaws_c (ca := ca) hb _) rfl (by decide) i_X5 q123 rfl rfl hd kk
theorem gC_X5_26 {x : En} {E : Amd} {D : va_G} {ca : Nat → ClassId} {h : Nat → Nat} {nl : Nat} {cc : ByteArray} {nL fr lo : Nat} {M : Mem} {pc : Nat} {V : List (Option Value)} {rest : List Value} {b : Nat} (hb : b < 3) (K : Kx x E D (tysOf ca) h (LaC ca h nl) RX5 cc nL fr lo) (hd : decode cc pc = .ok (.getfield 26, 3)) (kk : Go x D (tysOf ca) h (LaC ca h nl) nL M (pc + 3) V (.ref (h (HB b + 9)) :: rest)) : Go x D (tysOf ca) h (LaC ca h nl) nL M (pc) V (.ref (h (HB b + 6)) :: rest) := o_get K 3 (ltLaws hb) (obLaws_c (ca := ca) hb _) rfl (by decide) i_X5 q124 rfl rfl hd kk
theorem gC_X5_29 {x : En} {E : Amd} {D : va_G} {ca : Nat → ClassId} {h : Nat → Nat} {nl : Nat} {cc : ByteArray} {nL fr lo : Nat} {M : Mem} {pc : Nat} {V : List (Option Value)} {rest : List Value} {b : Nat} (hb : b < 3) (K : Kx x E D (tysOf ca) h (LaC ca h nl) RX5 cc nL fr lo) (hd : decode cc pc = .ok (.getfield 29, 3)) (kk : Go x D (tysOf ca) h (LaC ca h nl) nL M (pc + 3) V (.ref (h (HB b + 10)) :: rest)) : Go x D (tysOf ca) h (LaC ca h nl) nL M (pc) V (.ref (h (HB b + 6)) :: rest) := o_get K 4 (ltLaws hb) (obLaws_c (ca := ca) hb _) rfl (by decide) i_X5 q125 rfl rfl hd kk
theorem gC_X5_35 {x : En} {E : Amd} {D : va_G} {ca : Nat → ClassId} {h : Nat → Nat} {nl : Nat} {cc : ByteArray} {nL fr lo : Nat} {M : Mem} {pc : Nat} {V : List (Option Value)} {rest : List Value} {b : Nat} (hb : b < 3) (K : Kx x E D (tysOf ca) h (LaC ca h nl) RX5 cc nL fr lo) (hd : decode cc pc = .ok (.getfield 35, 3)) (kk : Go x D (tysOf ca) h (LaC ca h nl) nL M (pc + 3) V (.int (M (HB b + 6) 0) :: rest)) : Go x D (tysOf ca) h (LaC ca h nl) nL M (pc) V (.ref (h (HB b + 6)) :: rest) := o_get K 0 (ltLaws hb) (obLaws_c (ca := ca) hb _) rfl (by decide) i_X5 q119 rfl rfl hd kk
theorem gC_X5_45 {x : En} {E : Amd} {D : va_G} {ca : Nat → ClassId} {h : Nat → Nat} {nl : Nat} {cc : ByteArray} {nL fr lo : Nat} {M : Mem} {pc : Nat} {V : List (Option Value)} {rest : List Value} {c : Nat} (hc : 1 ≤ c ∧ c ≤ nl) (K : Kx x E D (tysOf ca) h (LaC ca h nl) RX5 cc nL fr lo) (hd : decode cc pc = .ok (.getfield 45, 3)) (kk : Go x D (tysOf ca) h (LaC ca h nl) nL M (pc + 3) V (.int (M (80 + 2 * c) 0) :: rest)) : Go x D (tysOf ca) h (LaC ca h nl) nL M (pc) V (.ref (h (80 + 2 * c)) :: rest) := o_get K 0 (ltLaw hc) (obLaw_c (ca := ca) hc _) rfl (by decide) i_X3 q853 rfl rfl hd kk
theorem gC_X6_11 {x : En} {E : Amd} {D : va_G} {ca : Nat → ClassId} {h : Nat → Nat} {nl : Nat} {cc : ByteArray} {nL fr lo : Nat} {M : Mem} {pc : Nat} {V : List (Option Value)} {rest : List Value} {s : Nat} (hs : ShOK ca h s) (K : Kx x E D (tysOf ca) h (LaC ca h nl) RX6 cc nL fr lo) (hd : decode cc pc = .ok (.getfield 11, 3)) (kk : Go x D (tysOf ca) h (LaC ca h nl) nL M (pc + 3) V (.int (M s 0) :: rest)) : Go x D (tysOf ca) h (LaC ca h nl) nL M (pc) V (.ref (h s) :: rest) := o_get K 0 (ltSheet hs) (obSheet_c (ca := ca) hs _) rfl (by decide) i_X6 q251 rfl rfl hd kk
theorem gC_X6_15 {x : En} {E : Amd} {D : va_G} {ca : Nat → ClassId} {h : Nat → Nat} {nl : Nat} {cc : ByteArray} {nL fr lo : Nat} {M : Mem} {pc : Nat} {V : List (Option Value)} {rest : List Value} {s : Nat} (hs : ShOK ca h s) (K : Kx x E D (tysOf ca) h (LaC ca h nl) RX6 cc nL fr lo) (hd : decode cc pc = .ok (.getfield 15, 3)) (kk : Go x D (tysOf ca) h (LaC ca h nl) nL M (pc + 3) V (.ref (h (s + 1)) :: rest)) : Go x D (tysOf ca) h (LaC ca h nl) nL M (pc) V (.ref (h s) :: rest) := o_get K 2 (ltSheet hs) (obSheet_c (ca := ca) hs _) rfl (by decide) i_X6 q255 rfl rfl hd kk
theorem gC_X6_19 {x : En} {E : Amd} {D : va_G} {ca : Nat → ClassId} {h : Nat → Nat} {nl : Nat} {cc : ByteArray} {nL fr lo : Nat} {M : Mem} {pc : Nat} {V : List (Option Value)} {rest : List Value} {s : Nat} (hs : ShOK ca h s) (K : Kx x E D (tysOf ca) h (LaC ca h nl) RX6 cc nL fr lo) (hd : decode cc pc = .ok (.getfield 19, 3)) (kk : Go x D (tysOf ca) h (LaC ca h nl) nL M (pc + 3) V (.int (M s 1) :: rest)) : Go x D (tysOf ca) h (LaC ca h nl) nL M (pc) V (.ref (h s) :: rest) := o_get K 1 (ltSheet hs) (obSheet_c (ca := ca) hs _) rfl (by decide) i_X6 q253 rfl rfl hd kk
theorem gC_X8_12 {x : En} {E : Amd} {D : va_G} {ca : Nat → ClassId} {h : Nat → Nat} {nl : Nat} {cc : ByteArray} {nL fr lo : Nat} {M : Mem} {pc : Nat} {V : List (Option Value)} {rest : List Value} (K : Kx x E D (tysOf ca) h (LaC ca h nl) RX8 cc nL fr lo) (hd : decode cc pc = .ok (.getfield 12, 3)) (kk : Go x D (tysOf ca) h (LaC ca h nl) nL M (pc + 3) V (.ref (h (HB 2)) :: rest)) : Go x D (tysOf ca) h (LaC ca h nl) nL M (pc) V (.ref (h 52) :: rest) := o_get K 0 (ltThought) (obThought_c (ca := ca) (fun _ => 0)) rfl (by decide) i_X8 q199 rfl rfl hd kk
theorem gC_X8_36 {x : En} {E : Amd} {D : va_G} {ca : Nat → ClassId} {h : Nat → Nat} {nl : Nat} {cc : ByteArray} {nL fr lo : Nat} {M : Mem} {pc : Nat} {V : List (Option Value)} {rest : List Value} {b : Nat} (hb : b < 3) (K : Kx x E D (tysOf ca) h (LaC ca h nl) RX8 cc nL fr lo) (hd : decode cc pc = .ok (.getfield 36, 3)) (kk : Go x D (tysOf ca) h (LaC ca h nl) nL M (pc + 3) V (.ref (h (HB b + 1)) :: rest)) : Go x D (tysOf ca) h (LaC ca h nl) nL M (pc) V (.ref (h (HB b)) :: rest) := o_get K 0 (ltHall hb) (obHall_c (ca := ca) hb _) rfl (by decide) i_X1 q142 rfl rfl hd kk
theorem gC_X8_40 {x : En} {E : Amd} {D : va_G} {ca : Nat → ClassId} {h : Nat → Nat} {nl : Nat} {cc : ByteArray} {nL fr lo : Nat} {M : Mem} {pc : Nat} {V : List (Option Value)} {rest : List Value} {b : Nat} (hb : b < 3) (K : Kx x E D (tysOf ca) h (LaC ca h nl) RX8 cc nL fr lo) (hd : decode cc pc = .ok (.getfield 40, 3)) (kk : Go x D (tysOf ca) h (LaC ca h nl) nL M (pc + 3) V (.int (M (HB b + 1) 1) :: rest)) : Go x D (tysOf ca) h (LaC ca h nl) nL M (pc) V (.ref (h (HB b + 1)) :: rest) := o_get K 1 (ltDoors hb) (obDoors_c (ca := ca) hb _) rfl (by decide) i_X0 q46 rfl rfl hd kk
theorem gC_X8_59 {x : En} {E : Amd} {D : va_G} {ca : Nat → ClassId} {h : Nat → Nat} {nl : Nat} {cc : ByteArray} {nL fr lo : Nat} {M : Mem} {pc : Nat} {V : List (Option Value)} {rest : List Value} {b : Nat} (hb : b < 3) (K : Kx x E D (tysOf ca) h (LaC ca h nl) RX8 cc nL fr lo) (hd : decode cc pc = .ok (.getfield 59, 3)) (kk : Go x D (tysOf ca) h (LaC ca h nl) nL M (pc + 3) V (.ref (h (HB b + 15)) :: rest)) : Go x D (tysOf ca) h (LaC ca h nl) nL M (pc) V (.ref (h (HB b)) :: rest) := o_get K 10 (ltHall hb) (obHall_c (ca := ca) hb _) rfl (by decide) i_X1 q164 rfl rfl hd kk
theorem gC_X8_63 {x : En} {E : Amd} {D : va_G} {ca : Nat → ClassId} {h : Nat → Nat} {nl : Nat} {cc : ByteArray} {nL fr lo : Nat} {M : Mem} {pc : Nat} {V : List (Option Value)} {rest : List Value} {b : Nat} (hb : b < 3) (K : Kx x E D (tysOf ca) h (LaC ca h nl) RX8 cc nL fr lo) (hd : decode cc pc = .ok (.getfield 63, 3)) (kk : Go x D (tysOf ca) h (LaC ca h nl) nL M (pc + 3) V (.ref (h (HB b + 13)) :: rest)) : Go x D (tysOf ca) h (LaC ca h nl) nL M (pc) V (.ref (h (HB b)) :: rest) := o_get K 4 (ltHall hb) (obHall_c (ca := ca) hb _) rfl (by decide) i_X1 q151 rfl rfl hd kk
theorem gC_X8_83 {x : En} {E : Amd} {D : va_G} {ca : Nat → ClassId} {h : Nat → Nat} {nl : Nat} {cc : ByteArray} {nL fr lo : Nat} {M : Mem} {pc : Nat} {V : List (Option Value)} {rest : List Value} {b : Nat} (hb : b < 3) (K : Kx x E D (tysOf ca) h (LaC ca h nl) RX8 cc nL fr lo) (hd : decode cc pc = .ok (.getfield 83, 3)) (kk : Go x D (tysOf ca) h (LaC ca h nl) nL M (pc + 3) V (.ref (h (HB b + 11)) :: rest)) : Go x D (tysOf ca) h (LaC ca h nl) nL M (pc) V (.ref (h (HB b)) :: rest) := o_get K 2 (ltHall hb) (obHall_c (ca := ca) hb _) rfl (by decide) i_X1 q147 rfl rfl hd kk
theorem gC_X8_86 {x : En} {E : Amd} {D : va_G} {ca : Nat → ClassId} {h : Nat → Nat} {nl : Nat} {cc : ByteArray} {nL fr lo : Nat} {M : Mem} {pc : Nat} {V : List (Option Value)} {rest : List Value} {b : Nat} (hb : b < 3) (K : Kx x E D (tysOf ca) h (LaC ca h nl) RX8 cc nL fr lo) (hd : decode cc pc = .ok (.getfield 86, 3)) (kk : Go x D (tysOf ca) h (LaC ca h nl) nL M (pc + 3) V (.int (M (HB b) 5) :: rest)) : Go x D (tysOf ca) h (LaC ca h nl) nL M (pc) V (.ref (h (HB b)) :: rest) := o_get K 5 (ltHall hb) (obHall_c (ca := ca) hb _) rfl (by decide) i_X1 q154 rfl rfl hd kk
theorem gC_X8_89 {x : En} {E : Amd} {D : va_G} {ca : Nat → ClassId} {h : Nat → Nat} {nl : Nat} {cc : ByteArray} {nL fr lo : Nat} {M : Mem} {pc : Nat} {V : List (Option Value)} {rest : List Value} {b : Nat} (hb : b < 3) (K : Kx x E D (tysOf ca) h (LaC ca h nl) RX8 cc nL fr lo) (hd : decode cc pc = .ok (.getfield 89, 3)) (kk : Go x D (tysOf ca) h (LaC ca h nl) nL M (pc + 3) V (.int (M (HB b + 1) 0) :: rest)) : Go x D (tysOf ca) h (LaC ca h nl) nL M (pc) V (.ref (h (HB b + 1)) :: rest) := o_get K 0 (ltDoors hb) (obDoors_c (ca := ca) hb _) rfl (by decide) i_X0 q43 rfl rfl hd kk
theorem gC_X8_105 {x : En} {E : Amd} {D : va_G} {ca : Nat → ClassId} {h : Nat → Nat} {nl : Nat} {cc : ByteArray} {nL fr lo : Nat} {M : Mem} {pc : Nat} {V : List (Option Value)} {rest : List Value} {s : Nat} (hs : ShOK ca h s) (K : Kx x E D (tysOf ca) h (LaC ca h nl) RX8 cc nL fr lo) (hd : decode cc pc = .ok (.getfield 105, 3)) (kk : Go x D (tysOf ca) h (LaC ca h nl) nL M (pc + 3) V (.ref (h (s + 1)) :: rest)) : Go x D (tysOf ca) h (LaC ca h nl) nL M (pc) V (.ref (h s) :: rest) := o_get K 2 (ltSheet hs) (obSheet_c (ca := ca) hs _) rfl (by decide) i_X6 q256 rfl rfl hd kk
theorem gC_X9_10 {x : En} {E : Amd} {D : va_G} {ca : Nat → ClassId} {h : Nat → Nat} {nl : Nat} {cc : ByteArray} {nL fr lo : Nat} {M : Mem} {pc : Nat} {V : List (Option Value)} {rest : List Value} (K : Kx x E D (tysOf ca) h (LaC ca h nl) RX9 cc nL fr lo) (hd : decode cc pc = .ok (.getfield 10, 3)) (kk : Go x D (tysOf ca) h (LaC ca h nl) nL M (pc + 3) V (.ref (h (HB 0)) :: rest)) : Go x D (tysOf ca) h (LaC ca h nl) nL M (pc) V (.ref (h 0) :: rest) := o_get K 0 (ltOne) (obOne_c (ca := ca) _) rfl (by decide) i_X9 q290 rfl rfl hd kk
theorem gC_X9_16 {x : En} {E : Amd} {D : va_G} {ca : Nat → ClassId} {h : Nat → Nat} {nl : Nat} {cc : ByteArray} {nL fr lo : Nat} {M : Mem} {pc : Nat} {V : List (Option Value)} {rest : List Value} (K : Kx x E D (tysOf ca) h (LaC ca h nl) RX9 cc nL fr lo) (hd : decode cc pc = .ok (.getfield 16, 3)) (kk : Go x D (tysOf ca) h (LaC ca h nl) nL M (pc + 3) V (.ref (h (HB 1)) :: rest)) : Go x D (tysOf ca) h (LaC ca h nl) nL M (pc) V (.ref (h 0) :: rest) := o_get K 1 (ltOne) (obOne_c (ca := ca) _) rfl (by decide) i_X9 q291 rfl rfl hd kk
theorem gC_X9_22 {x : En} {E : Amd} {D : va_G} {ca : Nat → ClassId} {h : Nat → Nat} {nl : Nat} {cc : ByteArray} {nL fr lo : Nat} {M : Mem} {pc : Nat} {V : List (Option Value)} {rest : List Value} (K : Kx x E D (tysOf ca) h (LaC ca h nl) RX9 cc nL fr lo) (hd : decode cc pc = .ok (.getfield 22, 3)) (kk : Go x D (tysOf ca) h (LaC ca h nl) nL M (pc + 3) V (.ref (h 52) :: rest)) : Go x D (tysOf ca) h (LaC ca h nl) nL M (pc) V (.ref (h 0) :: rest) := o_get K 3 (ltOne) (obOne_c (ca := ca) _) rfl (by decide) i_X9 q293 rfl rfl hd kk
theorem gC_X9_29 {x : En} {E : Amd} {D : va_G} {ca : Nat → ClassId} {h : Nat → Nat} {nl : Nat} {cc : ByteArray} {nL fr lo : Nat} {M : Mem} {pc : Nat} {V : List (Option Value)} {rest : List Value} (K : Kx x E D (tysOf ca) h (LaC ca h nl) RX9 cc nL fr lo) (hd : decode cc pc = .ok (.getfield 29, 3)) (kk : Go x D (tysOf ca) h (LaC ca h nl) nL M (pc + 3) V (.ref (h 54) :: rest)) : Go x D (tysOf ca) h (LaC ca h nl) nL M (pc) V (.ref (h 0) :: rest) := o_get K 4 (ltOne) (obOne_c (ca := ca) _) rfl (by decide) i_X9 q294 rfl rfl hd kk
theorem gC_X9_35 {x : En} {E : Amd} {D : va_G} {ca : Nat → ClassId} {h : Nat → Nat} {nl : Nat} {cc : ByteArray} {nL fr lo : Nat} {M : Mem} {pc : Nat} {V : List (Option Value)} {rest : List Value} (K : Kx x E D (tysOf ca) h (LaC ca h nl) RX9 cc nL fr lo) (hd : decode cc pc = .ok (.getfield 35, 3)) (kk : Go x D (tysOf ca) h (LaC ca h nl) nL M (pc + 3) V (.ref (h 56) :: rest)) : Go x D (tysOf ca) h (LaC ca h nl) nL M (pc) V (.ref (h 0) :: rest) := o_get K 5 (ltOne) (obOne_c (ca := ca) _) rfl (by decide) i_X9 q295 rfl rfl hd kk
theorem gC_X9_41 {x : En} {E : Amd} {D : va_G} {ca : Nat → ClassId} {h : Nat → Nat} {nl : Nat} {cc : ByteArray} {nL fr lo : Nat} {M : Mem} {pc : Nat} {V : List (Option Value)} {rest : List Value} (K : Kx x E D (tysOf ca) h (LaC ca h nl) RX9 cc nL fr lo) (hd : decode cc pc = .ok (.getfield 41, 3)) (kk : Go x D (tysOf ca) h (LaC ca h nl) nL M (pc + 3) V (.ref (h 65) :: rest)) : Go x D (tysOf ca) h (LaC ca h nl) nL M (pc) V (.ref (h 0) :: rest) := o_get K 6 (ltOne) (obOne_c (ca := ca) _) rfl (by decide) i_X9 q296 rfl rfl hd kk
theorem gC_X9_45 {x : En} {E : Amd} {D : va_G} {ca : Nat → ClassId} {h : Nat → Nat} {nl : Nat} {cc : ByteArray} {nL fr lo : Nat} {M : Mem} {pc : Nat} {V : List (Option Value)} {rest : List Value} (K : Kx x E D (tysOf ca) h (LaC ca h nl) RX9 cc nL fr lo) (hd : decode cc pc = .ok (.getfield 45, 3)) (kk : Go x D (tysOf ca) h (LaC ca h nl) nL M (pc + 3) V (.ref (h 81) :: rest)) : Go x D (tysOf ca) h (LaC ca h nl) nL M (pc) V (.ref (h 0) :: rest) := o_get K 7 (ltOne) (obOne_c (ca := ca) _) rfl (by decide) i_X9 q297 rfl rfl hd kk
theorem gC_X9_67 {x : En} {E : Amd} {D : va_G} {ca : Nat → ClassId} {h : Nat → Nat} {nl : Nat} {cc : ByteArray} {nL fr lo : Nat} {M : Mem} {pc : Nat} {V : List (Option Value)} {rest : List Value} {b : Nat} (hb : b < 3) (K : Kx x E D (tysOf ca) h (LaC ca h nl) RX9 cc nL fr lo) (hd : decode cc pc = .ok (.getfield 67, 3)) (kk : Go x D (tysOf ca) h (LaC ca h nl) nL M (pc + 3) V (.ref (h (HB b + 1)) :: rest)) : Go x D (tysOf ca) h (LaC ca h nl) nL M (pc) V (.ref (h (HB b)) :: rest) := o_get K 0 (ltHall hb) (obHall_c (ca := ca) hb _) rfl (by decide) i_X1 q141 rfl rfl hd kk
theorem gC_X9_71 {x : En} {E : Amd} {D : va_G} {ca : Nat → ClassId} {h : Nat → Nat} {nl : Nat} {cc : ByteArray} {nL fr lo : Nat} {M : Mem} {pc : Nat} {V : List (Option Value)} {rest : List Value} {b : Nat} (hb : b < 3) (K : Kx x E D (tysOf ca) h (LaC ca h nl) RX9 cc nL fr lo) (hd : decode cc pc = .ok (.getfield 71, 3)) (kk : Go x D (tysOf ca) h (LaC ca h nl) nL M (pc + 3) V (.int (M (HB b + 1) 0) :: rest)) : Go x D (tysOf ca) h (LaC ca h nl) nL M (pc) V (.ref (h (HB b + 1)) :: rest) := o_get K 0 (ltDoors hb) (obDoors_c (ca := ca) hb _) rfl (by decide) i_X0 q42 rfl rfl hd kk
theorem gC_X9_83 {x : En} {E : Amd} {D : va_G} {ca : Nat → ClassId} {h : Nat → Nat} {nl : Nat} {cc : ByteArray} {nL fr lo : Nat} {M : Mem} {pc : Nat} {V : List (Option Value)} {rest : List Value} {b : Nat} (hb : b < 3) (K : Kx x E D (tysOf ca) h (LaC ca h nl) RX9 cc nL fr lo) (hd : decode cc pc = .ok (.getfield 83, 3)) (kk : Go x D (tysOf ca) h (LaC ca h nl) nL M (pc + 3) V (.ref (h (HB b + 2)) :: rest)) : Go x D (tysOf ca) h (LaC ca h nl) nL M (pc) V (.ref (h (HB b + 1)) :: rest) := o_get K 2 (ltDoors hb) (obDoors_c (ca := ca) hb _) rfl (by decide) i_X0 q50 rfl rfl hd kk
theorem gC_X9_86 {x : En} {E : Amd} {D : va_G} {ca : Nat → ClassId} {h : Nat → Nat} {nl : Nat} {cc : ByteArray} {nL fr lo : Nat} {M : Mem} {pc : Nat} {V : List (Option Value)} {rest : List Value} {b : Nat} (hb : b < 3) (K : Kx x E D (tysOf ca) h (LaC ca h nl) RX9 cc nL fr lo) (hd : decode cc pc = .ok (.getfield 86, 3)) (kk : Go x D (tysOf ca) h (LaC ca h nl) nL M (pc + 3) V (.ref (h (HB b + 3)) :: rest)) : Go x D (tysOf ca) h (LaC ca h nl) nL M (pc) V (.ref (h (HB b + 1)) :: rest) := o_get K 3 (ltDoors hb) (obDoors_c (ca := ca) hb _) rfl (by decide) i_X0 q53 rfl rfl hd kk
theorem gC_X9_89 {x : En} {E : Amd} {D : va_G} {ca : Nat → ClassId} {h : Nat → Nat} {nl : Nat} {cc : ByteArray} {nL fr lo : Nat} {M : Mem} {pc : Nat} {V : List (Option Value)} {rest : List Value} {b : Nat} (hb : b < 3) (K : Kx x E D (tysOf ca) h (LaC ca h nl) RX9 cc nL fr lo) (hd : decode cc pc = .ok (.getfield 89, 3)) (kk : Go x D (tysOf ca) h (LaC ca h nl) nL M (pc + 3) V (.ref (h (HB b + 4)) :: rest)) : Go x D (tysOf ca) h (LaC ca h nl) nL M (pc) V (.ref (h (HB b + 1)) :: rest) := o_get K 4 (ltDoors hb) (obDoors_c (ca := ca) hb _) rfl (by decide) i_X0 q56 rfl rfl hd kk
theorem gC_X9_92 {x : En} {E : Amd} {D : va_G} {ca : Nat → ClassId} {h : Nat → Nat} {nl : Nat} {cc : ByteArray} {nL fr lo : Nat} {M : Mem} {pc : Nat} {V : List (Option Value)} {rest : List Value} {b : Nat} (hb : b < 3) (K : Kx x E D (tysOf ca) h (LaC ca h nl) RX9 cc nL fr lo) (hd : decode cc pc = .ok (.getfield 92, 3)) (kk : Go x D (tysOf ca) h (LaC ca h nl) nL M (pc + 3) V (.ref (h (HB b + 5)) :: rest)) : Go x D (tysOf ca) h (LaC ca h nl) nL M (pc) V (.ref (h (HB b + 1)) :: rest) := o_get K 5 (ltDoors hb) (obDoors_c (ca := ca) hb _) rfl (by decide) i_X0 q59 rfl rfl hd kk
theorem gC_X9_118 {x : En} {E : Amd} {D : va_G} {ca : Nat → ClassId} {h : Nat → Nat} {nl : Nat} {cc : ByteArray} {nL fr lo : Nat} {M : Mem} {pc : Nat} {V : List (Option Value)} {rest : List Value} {b : Nat} (hb : b < 3) (K : Kx x E D (tysOf ca) h (LaC ca h nl) RX9 cc nL fr lo) (hd : decode cc pc = .ok (.getfield 118, 3)) (kk : Go x D (tysOf ca) h (LaC ca h nl) nL M (pc + 3) V (.ref (h (HB b + 11)) :: rest)) : Go x D (tysOf ca) h (LaC ca h nl) nL M (pc) V (.ref (h (HB b)) :: rest) := o_get K 2 (ltHall hb) (obHall_c (ca := ca) hb _) rfl (by decide) i_X1 q146 rfl rfl hd kk
theorem gC_X9_121 {x : En} {E : Amd} {D : va_G} {ca : Nat → ClassId} {h : Nat → Nat} {nl : Nat} {cc : ByteArray} {nL fr lo : Nat} {M : Mem} {pc : Nat} {V : List (Option Value)} {rest : List Value} {b : Nat} (hb : b < 3) (K : Kx x E D (tysOf ca) h (LaC ca h nl) RX9 cc nL fr lo) (hd : decode cc pc = .ok (.getfield 121, 3)) (kk : Go x D (tysOf ca) h (LaC ca h nl) nL M (pc + 3) V (.ref (h (HB b + 12)) :: rest)) : Go x D (tysOf ca) h (LaC ca h nl) nL M (pc) V (.ref (h (HB b)) :: rest) := o_get K 3 (ltHall hb) (obHall_c (ca := ca) hb _) rfl (by decide) i_X1 q149 rfl rfl hd kk
theorem gC_X9_124 {x : En} {E : Amd} {D : va_G} {ca : Nat → ClassId} {h : Nat → Nat} {nl : Nat} {cc : ByteArray} {nL fr lo : Nat} {M : Mem} {pc : Nat} {V : List (Option Value)} {rest : List Value} {b : Nat} (hb : b < 3) (K : Kx x E D (tysOf ca) h (LaC ca h nl) RX9 cc nL fr lo) (hd : decode cc pc = .ok (.getfield 124, 3)) (kk : Go x D (tysOf ca) h (LaC ca h nl) nL M (pc + 3) V (.ref (h (HB b + 13)) :: rest)) : Go x D (tysOf ca) h (LaC ca h nl) nL M (pc) V (.ref (h (HB b)) :: rest) := o_get K 4 (ltHall hb) (obHall_c (ca := ca) hb _) rfl (by decide) i_X1 q152 rfl rfl hd kk
theorem gC_X9_147 {x : En} {E : Amd} {D : va_G} {ca : Nat → ClassId} {h : Nat → Nat} {nl : Nat} {cc : ByteArray} {nL fr lo : Nat} {M : Mem} {pc : Nat} {V : List (Option Value)} {rest : List Value} {b : Nat} (hb : b < 3) (K : Kx x E D (tysOf ca) h (LaC ca h nl) RX9 cc nL fr lo) (hd : decode cc pc = .ok (.getfield 147, 3)) (kk : Go x D (tysOf ca) h (LaC ca h nl) nL M (pc + 3) V (.int (M (HB b) 8) :: rest)) : Go x D (tysOf ca) h (LaC ca h nl) nL M (pc) V (.ref (h (HB b)) :: rest) := o_get K 8 (ltHall hb) (obHall_c (ca := ca) hb _) rfl (by decide) i_X1 q161 rfl rfl hd kk
theorem gC_X9_167 {x : En} {E : Amd} {D : va_G} {ca : Nat → ClassId} {h : Nat → Nat} {nl : Nat} {cc : ByteArray} {nL fr lo : Nat} {M : Mem} {pc : Nat} {V : List (Option Value)} {rest : List Value} {b : Nat} (hb : b < 3) (K : Kx x E D (tysOf ca) h (LaC ca h nl) RX9 cc nL fr lo) (hd : decode cc pc = .ok (.getfield 167, 3)) (kk : Go x D (tysOf ca) h (LaC ca h nl) nL M (pc + 3) V (.int (M (HB b) 6) :: rest)) : Go x D (tysOf ca) h (LaC ca h nl) nL M (pc) V (.ref (h (HB b)) :: rest) := o_get K 6 (ltHall hb) (obHall_c (ca := ca) hb _) rfl (by decide) i_X1 q157 rfl rfl hd kk
theorem gC_X9_176 {x : En} {E : Amd} {D : va_G} {ca : Nat → ClassId} {h : Nat → Nat} {nl : Nat} {cc : ByteArray} {nL fr lo : Nat} {M : Mem} {pc : Nat} {V : List (Option Value)} {rest : List Value} {b : Nat} (hb : b < 3) (K : Kx x E D (tysOf ca) h (LaC ca h nl) RX9 cc nL fr lo) (hd : decode cc pc = .ok (.getfield 176, 3)) (kk : Go x D (tysOf ca) h (LaC ca h nl) nL M (pc + 3) V (.int (M (HB b) 5) :: rest)) : Go x D (tysOf ca) h (LaC ca h nl) nL M (pc) V (.ref (h (HB b)) :: rest) := o_get K 5 (ltHall hb) (obHall_c (ca := ca) hb _) rfl (by decide) i_X1 q155 rfl rfl hd kk
theorem gC_X9_179 {x : En} {E : Amd} {D : va_G} {ca : Nat → ClassId} {h : Nat → Nat} {nl : Nat} {cc : ByteArray} {nL fr lo : Nat} {M : Mem} {pc : Nat} {V : List (Option Value)} {rest : List Value} {b : Nat} (hb : b < 3) (K : Kx x E D (tysOf ca) h (LaC ca h nl) RX9 cc nL fr lo) (hd : decode cc pc = .ok (.getfield 179, 3)) (kk : Go x D (tysOf ca) h (LaC ca h nl) nL M (pc + 3) V (.int (M (HB b + 1) 1) :: rest)) : Go x D (tysOf ca) h (LaC ca h nl) nL M (pc) V (.ref (h (HB b + 1)) :: rest) := o_get K 1 (ltDoors hb) (obDoors_c (ca := ca) hb _) rfl (by decide) i_X0 q48 rfl rfl hd kk
theorem gC_X9_223 {x : En} {E : Amd} {D : va_G} {ca : Nat → ClassId} {h : Nat → Nat} {nl : Nat} {cc : ByteArray} {nL fr lo : Nat} {M : Mem} {pc : Nat} {V : List (Option Value)} {rest : List Value} {b : Nat} (hb : b < 3) (K : Kx x E D (tysOf ca) h (LaC ca h nl) RX9 cc nL fr lo) (hd : decode cc pc = .ok (.getfield 223, 3)) (kk : Go x D (tysOf ca) h (LaC ca h nl) nL M (pc + 3) V (.ref (h (HB b + 6)) :: rest)) : Go x D (tysOf ca) h (LaC ca h nl) nL M (pc) V (.ref (h (HB b)) :: rest) := o_get K 1 (ltHall hb) (obHall_c (ca := ca) hb _) rfl (by decide) i_X1 q144 rfl rfl hd kk
theorem gC_X9_229 {x : En} {E : Amd} {D : va_G} {ca : Nat → ClassId} {h : Nat → Nat} {nl : Nat} {cc : ByteArray} {nL fr lo : Nat} {M : Mem} {pc : Nat} {V : List (Option Value)} {rest : List Value} {b : Nat} (hb : b < 3) (K : Kx x E D (tysOf ca) h (LaC ca h nl) RX9 cc nL fr lo) (hd : decode cc pc = .ok (.getfield 229, 3)) (kk : Go x D (tysOf ca) h (LaC ca h nl) nL M (pc + 3) V (.int (M (HB b) 7) :: rest)) : Go x D (tysOf ca) h (LaC ca h nl) nL M (pc) V (.ref (h (HB b)) :: rest) := o_get K 7 (ltHall hb) (obHall_c (ca := ca) hb _) rfl (by decide) i_X1 q159 rfl rfl hd kk
theorem gC_X9_235 {x : En} {E : Amd} {D : va_G} {ca : Nat → ClassId} {h : Nat → Nat} {nl : Nat} {cc : ByteArray} {nL fr lo : Nat} {M : Mem} {pc : Nat} {V : List (Option Value)} {rest : List Value} (K : Kx x E D (tysOf ca) h (LaC ca h nl) RX9 cc nL fr lo) (hd : decode cc pc = .ok (.getfield 235, 3)) (kk : Go x D (tysOf ca) h (LaC ca h nl) nL M (pc + 3) V (.int (M 54 1) :: rest)) : Go x D (tysOf ca) h (LaC ca h nl) nL M (pc) V (.ref (h 54) :: rest) := o_get K 1 (ltReader) (obReader_c (ca := ca) _) rfl (by decide) i_X4 q211 rfl rfl hd kk
theorem gC_X9_244 {x : En} {E : Amd} {D : va_G} {ca : Nat → ClassId} {h : Nat → Nat} {nl : Nat} {cc : ByteArray} {nL fr lo : Nat} {M : Mem} {pc : Nat} {V : List (Option Value)} {rest : List Value} {b : Nat} (hb : b < 3) (K : Kx x E D (tysOf ca) h (LaC ca h nl) RX9 cc nL fr lo) (hd : decode cc pc = .ok (.getfield 244, 3)) (kk : Go x D (tysOf ca) h (LaC ca h nl) nL M (pc + 3) V (.int (M (HB b + 6) 0) :: rest)) : Go x D (tysOf ca) h (LaC ca h nl) nL M (pc) V (.ref (h (HB b + 6)) :: rest) := o_get K 0 (ltLaws hb) (obLaws_c (ca := ca) hb _) rfl (by decide) i_X5 q120 rfl rfl hd kk
theorem gC_X9_256 {x : En} {E : Amd} {D : va_G} {ca : Nat → ClassId} {h : Nat → Nat} {nl : Nat} {cc : ByteArray} {nL fr lo : Nat} {M : Mem} {pc : Nat} {V : List (Option Value)} {rest : List Value} {c : Nat} (hc : 1 ≤ c ∧ c ≤ nl) (K : Kx x E D (tysOf ca) h (LaC ca h nl) RX9 cc nL fr lo) (hd : decode cc pc = .ok (.getfield 256, 3)) (kk : Go x D (tysOf ca) h (LaC ca h nl) nL M (pc + 3) V (.int (M (80 + 2 * c) 0) :: rest)) : Go x D (tysOf ca) h (LaC ca h nl) nL M (pc) V (.ref (h (80 + 2 * c)) :: rest) := o_get K 0 (ltLaw hc) (obLaw_c (ca := ca) hc _) rfl (by decide) i_X3 q854 rfl rfl hd kk
theorem gC_X9_261 {x : En} {E : Amd} {D : va_G} {ca : Nat → ClassId} {h : Nat → Nat} {nl : Nat} {cc : ByteArray} {nL fr lo : Nat} {M : Mem} {pc : Nat} {V : List (Option Value)} {rest : List Value} {c : Nat} (hc : 1 ≤ c ∧ c ≤ nl) (K : Kx x E D (tysOf ca) h (LaC ca h nl) RX9 cc nL fr lo) (hd : decode cc pc = .ok (.getfield 261, 3)) (kk : Go x D (tysOf ca) h (LaC ca h nl) nL M (pc + 3) V (.int (M (80 + 2 * c) 1) :: rest)) : Go x D (tysOf ca) h (LaC ca h nl) nL M (pc) V (.ref (h (80 + 2 * c)) :: rest) := o_get K 1 (ltLaw hc) (obLaw_c (ca := ca) hc _) rfl (by decide) i_X3 q856 rfl rfl hd kk
theorem gC_X9_264 {x : En} {E : Amd} {D : va_G} {ca : Nat → ClassId} {h : Nat → Nat} {nl : Nat} {cc : ByteArray} {nL fr lo : Nat} {M : Mem} {pc : Nat} {V : List (Option Value)} {rest : List Value} {b : Nat} (hb : b < 3) (K : Kx x E D (tysOf ca) h (LaC ca h nl) RX9 cc nL fr lo) (hd : decode cc pc = .ok (.getfield 264, 3)) (kk : Go x D (tysOf ca) h (LaC ca h nl) nL M (pc + 3) V (.ref (h (HB b + 7)) :: rest)) : Go x D (tysOf ca) h (LaC ca h nl) nL M (pc) V (.ref (h (HB b + 6)) :: rest) := o_get K 1 (ltLaws hb) (obLaws_c (ca := ca) hb _) rfl (by decide) i_X5 q122 rfl rfl hd kk
theorem gC_X9_274 {x : En} {E : Amd} {D : va_G} {ca : Nat → ClassId} {h : Nat → Nat} {nl : Nat} {cc : ByteArray} {nL fr lo : Nat} {M : Mem} {pc : Nat} {V : List (Option Value)} {rest : List Value} {s : Nat} (hs : ShOK ca h s) (K : Kx x E D (tysOf ca) h (LaC ca h nl) RX9 cc nL fr lo) (hd : decode cc pc = .ok (.getfield 274, 3)) (kk : Go x D (tysOf ca) h (LaC ca h nl) nL M (pc + 3) V (.int (M s 0) :: rest)) : Go x D (tysOf ca) h (LaC ca h nl) nL M (pc) V (.ref (h s) :: rest) := o_get K 0 (ltSheet hs) (obSheet_c (ca := ca) hs _) rfl (by decide) i_X6 q252 rfl rfl hd kk
theorem gC_X9_277 {x : En} {E : Amd} {D : va_G} {ca : Nat → ClassId} {h : Nat → Nat} {nl : Nat} {cc : ByteArray} {nL fr lo : Nat} {M : Mem} {pc : Nat} {V : List (Option Value)} {rest : List Value} {s : Nat} (hs : ShOK ca h s) (K : Kx x E D (tysOf ca) h (LaC ca h nl) RX9 cc nL fr lo) (hd : decode cc pc = .ok (.getfield 277, 3)) (kk : Go x D (tysOf ca) h (LaC ca h nl) nL M (pc + 3) V (.ref (h (s + 1)) :: rest)) : Go x D (tysOf ca) h (LaC ca h nl) nL M (pc) V (.ref (h s) :: rest) := o_get K 2 (ltSheet hs) (obSheet_c (ca := ca) hs _) rfl (by decide) i_X6 q257 rfl rfl hd kk
theorem gC_X9_289 {x : En} {E : Amd} {D : va_G} {ca : Nat → ClassId} {h : Nat → Nat} {nl : Nat} {cc : ByteArray} {nL fr lo : Nat} {M : Mem} {pc : Nat} {V : List (Option Value)} {rest : List Value} {s : Nat} (hs : ShOK ca h s) (K : Kx x E D (tysOf ca) h (LaC ca h nl) RX9 cc nL fr lo) (hd : decode cc pc = .ok (.getfield 289, 3)) (kk : Go x D (tysOf ca) h (LaC ca h nl) nL M (pc + 3) V (.int (M s 1) :: rest)) : Go x D (tysOf ca) h (LaC ca h nl) nL M (pc) V (.ref (h s) :: rest) := o_get K 1 (ltSheet hs) (obSheet_c (ca := ca) hs _) rfl (by decide) i_X6 q254 rfl rfl hd kk
theorem gC_X9_305 {x : En} {E : Amd} {D : va_G} {ca : Nat → ClassId} {h : Nat → Nat} {nl : Nat} {cc : ByteArray} {nL fr lo : Nat} {M : Mem} {pc : Nat} {V : List (Option Value)} {rest : List Value} {i : Nat} (hi : i < 5) (K : Kx x E D (tysOf ca) h (LaC ca h nl) RX9 cc nL fr lo) (hd : decode cc pc = .ok (.getfield 305, 3)) (kk : Go x D (tysOf ca) h (LaC ca h nl) nL M (pc + 3) V (.int (M (66 + 3 * i) 0) :: rest)) : Go x D (tysOf ca) h (LaC ca h nl) nL M (pc) V (.ref (h (66 + 3 * i)) :: rest) := o_get K 0 (ltSlot hi) (obSlot_c (ca := ca) hi _) rfl (by decide) i_X7 q273 rfl rfl hd kk
theorem gC_X9_308 {x : En} {E : Amd} {D : va_G} {ca : Nat → ClassId} {h : Nat → Nat} {nl : Nat} {cc : ByteArray} {nL fr lo : Nat} {M : Mem} {pc : Nat} {V : List (Option Value)} {rest : List Value} {i : Nat} (hi : i < 5) (K : Kx x E D (tysOf ca) h (LaC ca h nl) RX9 cc nL fr lo) (hd : decode cc pc = .ok (.getfield 308, 3)) (kk : Go x D (tysOf ca) h (LaC ca h nl) nL M (pc + 3) V (.int (M (66 + 3 * i) 1) :: rest)) : Go x D (tysOf ca) h (LaC ca h nl) nL M (pc) V (.ref (h (66 + 3 * i)) :: rest) := o_get K 1 (ltSlot hi) (obSlot_c (ca := ca) hi _) rfl (by decide) i_X7 q274 rfl rfl hd kk
theorem gC_X9_310 {x : En} {E : Amd} {D : va_G} {ca : Nat → ClassId} {h : Nat → Nat} {nl : Nat} {cc : ByteArray} {nL fr lo : Nat} {M : Mem} {pc : Nat} {V : List (Option Value)} {rest : List Value} {i : Nat} (hi : i < 5) (K : Kx x E D (tysOf ca) h (LaC ca h nl) RX9 cc nL fr lo) (hd : decode cc pc = .ok (.getfield 310, 3)) (kk : Go x D (tysOf ca) h (LaC ca h nl) nL M (pc + 3) V (.int (M (66 + 3 * i) 2) :: rest)) : Go x D (tysOf ca) h (LaC ca h nl) nL M (pc) V (.ref (h (66 + 3 * i)) :: rest) := o_get K 2 (ltSlot hi) (obSlot_c (ca := ca) hi _) rfl (by decide) i_X7 q275 rfl rfl hd kk
theorem gC_X9_312 {x : En} {E : Amd} {D : va_G} {ca : Nat → ClassId} {h : Nat → Nat} {nl : Nat} {cc : ByteArray} {nL fr lo : Nat} {M : Mem} {pc : Nat} {V : List (Option Value)} {rest : List Value} {i : Nat} (hi : i < 5) (K : Kx x E D (tysOf ca) h (LaC ca h nl) RX9 cc nL fr lo) (hd : decode cc pc = .ok (.getfield 312, 3)) (kk : Go x D (tysOf ca) h (LaC ca h nl) nL M (pc + 3) V (.ref (h (67 + 3 * i)) :: rest)) : Go x D (tysOf ca) h (LaC ca h nl) nL M (pc) V (.ref (h (66 + 3 * i)) :: rest) := o_get K 4 (ltSlot hi) (obSlot_c (ca := ca) hi _) rfl (by decide) i_X7 q278 rfl rfl hd kk
theorem gC_X9_320 {x : En} {E : Amd} {D : va_G} {ca : Nat → ClassId} {h : Nat → Nat} {nl : Nat} {cc : ByteArray} {nL fr lo : Nat} {M : Mem} {pc : Nat} {V : List (Option Value)} {rest : List Value} {i : Nat} (hi : i < 5) (K : Kx x E D (tysOf ca) h (LaC ca h nl) RX9 cc nL fr lo) (hd : decode cc pc = .ok (.getfield 320, 3)) (kk : Go x D (tysOf ca) h (LaC ca h nl) nL M (pc + 3) V (.int (M (66 + 3 * i) 3) :: rest)) : Go x D (tysOf ca) h (LaC ca h nl) nL M (pc) V (.ref (h (66 + 3 * i)) :: rest) := o_get K 3 (ltSlot hi) (obSlot_c (ca := ca) hi _) rfl (by decide) i_X7 q276 rfl rfl hd kk
theorem gC_X9_324 {x : En} {E : Amd} {D : va_G} {ca : Nat → ClassId} {h : Nat → Nat} {nl : Nat} {cc : ByteArray} {nL fr lo : Nat} {M : Mem} {pc : Nat} {V : List (Option Value)} {rest : List Value} (K : Kx x E D (tysOf ca) h (LaC ca h nl) RX9 cc nL fr lo) (hd : decode cc pc = .ok (.getfield 324, 3)) (kk : Go x D (tysOf ca) h (LaC ca h nl) nL M (pc + 3) V (.int (M 0 10) :: rest)) : Go x D (tysOf ca) h (LaC ca h nl) nL M (pc) V (.ref (h 0) :: rest) := o_get K 8 (ltOne) (obOne_c (ca := ca) _) rfl (by decide) i_X9 q298 rfl rfl hd kk
theorem gC_X9_327 {x : En} {E : Amd} {D : va_G} {ca : Nat → ClassId} {h : Nat → Nat} {nl : Nat} {cc : ByteArray} {nL fr lo : Nat} {M : Mem} {pc : Nat} {V : List (Option Value)} {rest : List Value} (K : Kx x E D (tysOf ca) h (LaC ca h nl) RX9 cc nL fr lo) (hd : decode cc pc = .ok (.getfield 327, 3)) (kk : Go x D (tysOf ca) h (LaC ca h nl) nL M (pc + 3) V (.int (M 0 2) :: rest)) : Go x D (tysOf ca) h (LaC ca h nl) nL M (pc) V (.ref (h 0) :: rest) := o_get K 2 (ltOne) (obOne_c (ca := ca) _) rfl (by decide) i_X9 q292 rfl rfl hd kk
theorem pC_X0_22 {x : En} {E : Amd} {D : va_G} {ca : Nat → ClassId} {h : Nat → Nat} {nl : Nat} {cc : ByteArray} {nL fr lo : Nat} {M : Mem} {pc : Nat} {V : List (Option Value)} {rest : List Value} {b : Nat} (hb : b < 3) (K : Kx x E D (tysOf ca) h (LaC ca h nl) RX0 cc nL fr lo) {v : Int32} (hd : decode cc pc = .ok (.putfield 22, 3)) (kk : Go x D (tysOf ca) h (LaC ca h nl) nL (sto M (HB b + 1) 0 v) (pc + 3) V (rest)) : Go x D (tysOf ca) h (LaC ca h nl) nL M (pc) V (.int v :: .ref (h (HB b + 1)) :: rest) := o_put K (ty := .int) tyX0 0 (upd (M (HB b + 1)) 0 v) (ltDoors hb) (obDoors_c (ca := ca) hb _) rfl (by decide) i_X0 tyX0_ok nmX0 q41 rfl rfl (by decide +kernel) rfl rfl (Nat.le_of_ble_eq_true rfl) (obDoors_c (ca := ca) hb _) hd kk
theorem pC_X0_26 {x : En} {E : Amd} {D : va_G} {ca : Nat → ClassId} {h : Nat → Nat} {nl : Nat} {cc : ByteArray} {nL fr lo : Nat} {M : Mem} {pc : Nat} {V : List (Option Value)} {rest : List Value} {b : Nat} (hb : b < 3) (K : Kx x E D (tysOf ca) h (LaC ca h nl) RX0 cc nL fr lo) {v : Int32} (hd : decode cc pc = .ok (.putfield 26, 3)) (kk : Go x D (tysOf ca) h (LaC ca h nl) nL (sto M (HB b + 1) 1 v) (pc + 3) V (rest)) : Go x D (tysOf ca) h (LaC ca h nl) nL M (pc) V (.int v :: .ref (h (HB b + 1)) :: rest) := o_put K (ty := .int) tyX0 1 (upd (M (HB b + 1)) 1 v) (ltDoors hb) (obDoors_c (ca := ca) hb _) rfl (by decide) i_X0 tyX0_ok nmX0 q45 rfl rfl (by decide +kernel) rfl rfl (Nat.le_of_ble_eq_true rfl) (obDoors_c (ca := ca) hb _) hd kk
theorem pC_X1_35 {x : En} {E : Amd} {D : va_G} {ca : Nat → ClassId} {h : Nat → Nat} {nl : Nat} {cc : ByteArray} {nL fr lo : Nat} {M : Mem} {pc : Nat} {V : List (Option Value)} {rest : List Value} {b : Nat} (hb : b < 3) (K : Kx x E D (tysOf ca) h (LaC ca h nl) RX1 cc nL fr lo) {v : Int32} (hd : decode cc pc = .ok (.putfield 35, 3)) (kk : Go x D (tysOf ca) h (LaC ca h nl) nL (sto M (HB b) 8 v) (pc + 3) V (rest)) : Go x D (tysOf ca) h (LaC ca h nl) nL M (pc) V (.int v :: .ref (h (HB b)) :: rest) := o_put K (ty := .int) tyX1 8 (upd (M (HB b)) 8 v) (ltHall hb) (obHall_c (ca := ca) hb _) rfl (by decide) i_X1 tyX1_ok nmX1 q160 rfl rfl (by decide +kernel) rfl rfl (Nat.le_of_ble_eq_true rfl) (obHall_c (ca := ca) hb _) hd kk
theorem pC_X1_71 {x : En} {E : Amd} {D : va_G} {ca : Nat → ClassId} {h : Nat → Nat} {nl : Nat} {cc : ByteArray} {nL fr lo : Nat} {M : Mem} {pc : Nat} {V : List (Option Value)} {rest : List Value} {b : Nat} (hb : b < 3) (K : Kx x E D (tysOf ca) h (LaC ca h nl) RX1 cc nL fr lo) {v : Int32} (hd : decode cc pc = .ok (.putfield 71, 3)) (kk : Go x D (tysOf ca) h (LaC ca h nl) nL (sto M (HB b) 5 v) (pc + 3) V (rest)) : Go x D (tysOf ca) h (LaC ca h nl) nL M (pc) V (.int v :: .ref (h (HB b)) :: rest) := o_put K (ty := .int) tyX1 5 (upd (M (HB b)) 5 v) (ltHall hb) (obHall_c (ca := ca) hb _) rfl (by decide) i_X1 tyX1_ok nmX1 q153 rfl rfl (by decide +kernel) rfl rfl (Nat.le_of_ble_eq_true rfl) (obHall_c (ca := ca) hb _) hd kk
theorem pC_X1_74 {x : En} {E : Amd} {D : va_G} {ca : Nat → ClassId} {h : Nat → Nat} {nl : Nat} {cc : ByteArray} {nL fr lo : Nat} {M : Mem} {pc : Nat} {V : List (Option Value)} {rest : List Value} {b : Nat} (hb : b < 3) (K : Kx x E D (tysOf ca) h (LaC ca h nl) RX1 cc nL fr lo) {v : Int32} (hd : decode cc pc = .ok (.putfield 74, 3)) (kk : Go x D (tysOf ca) h (LaC ca h nl) nL (sto M (HB b) 6 v) (pc + 3) V (rest)) : Go x D (tysOf ca) h (LaC ca h nl) nL M (pc) V (.int v :: .ref (h (HB b)) :: rest) := o_put K (ty := .int) tyX1 6 (upd (M (HB b)) 6 v) (ltHall hb) (obHall_c (ca := ca) hb _) rfl (by decide) i_X1 tyX1_ok nmX1 q156 rfl rfl (by decide +kernel) rfl rfl (Nat.le_of_ble_eq_true rfl) (obHall_c (ca := ca) hb _) hd kk
theorem pC_X1_77 {x : En} {E : Amd} {D : va_G} {ca : Nat → ClassId} {h : Nat → Nat} {nl : Nat} {cc : ByteArray} {nL fr lo : Nat} {M : Mem} {pc : Nat} {V : List (Option Value)} {rest : List Value} {b : Nat} (hb : b < 3) (K : Kx x E D (tysOf ca) h (LaC ca h nl) RX1 cc nL fr lo) {v : Int32} (hd : decode cc pc = .ok (.putfield 77, 3)) (kk : Go x D (tysOf ca) h (LaC ca h nl) nL (sto M (HB b) 7 v) (pc + 3) V (rest)) : Go x D (tysOf ca) h (LaC ca h nl) nL M (pc) V (.int v :: .ref (h (HB b)) :: rest) := o_put K (ty := .int) tyX1 7 (upd (M (HB b)) 7 v) (ltHall hb) (obHall_c (ca := ca) hb _) rfl (by decide) i_X1 tyX1_ok nmX1 q158 rfl rfl (by decide +kernel) rfl rfl (Nat.le_of_ble_eq_true rfl) (obHall_c (ca := ca) hb _) hd kk
theorem pC_X4_19 {x : En} {E : Amd} {D : va_G} {ca : Nat → ClassId} {h : Nat → Nat} {nl : Nat} {cc : ByteArray} {nL fr lo : Nat} {M : Mem} {pc : Nat} {V : List (Option Value)} {rest : List Value} (K : Kx x E D (tysOf ca) h (LaC ca h nl) RX4 cc nL fr lo) {v : Int32} (hd : decode cc pc = .ok (.putfield 19, 3)) (kk : Go x D (tysOf ca) h (LaC ca h nl) nL (sto M 54 1 v) (pc + 3) V (rest)) : Go x D (tysOf ca) h (LaC ca h nl) nL M (pc) V (.int v :: .ref (h 54) :: rest) := o_put K (ty := .int) tyX4 1 (upd (M 54) 1 v) (ltReader) (obReader_c (ca := ca) _) rfl (by decide) i_X4 tyX4_ok nmX4 q210 rfl rfl (by decide +kernel) rfl rfl (Nat.le_of_ble_eq_true rfl) (obReader_c (ca := ca) _) hd kk
theorem pC_X4_23 {x : En} {E : Amd} {D : va_G} {ca : Nat → ClassId} {h : Nat → Nat} {nl : Nat} {cc : ByteArray} {nL fr lo : Nat} {M : Mem} {pc : Nat} {V : List (Option Value)} {rest : List Value} (K : Kx x E D (tysOf ca) h (LaC ca h nl) RX4 cc nL fr lo) {v : Int32} (hd : decode cc pc = .ok (.putfield 23, 3)) (kk : Go x D (tysOf ca) h (LaC ca h nl) nL (sto M 54 3 v) (pc + 3) V (rest)) : Go x D (tysOf ca) h (LaC ca h nl) nL M (pc) V (.int v :: .ref (h 54) :: rest) := o_put K (ty := .int) tyX4 3 (upd (M 54) 3 v) (ltReader) (obReader_c (ca := ca) _) rfl (by decide) i_X4 tyX4_ok nmX4 q213 rfl rfl (by decide +kernel) rfl rfl (Nat.le_of_ble_eq_true rfl) (obReader_c (ca := ca) _) hd kk
theorem pC_X4_26 {x : En} {E : Amd} {D : va_G} {ca : Nat → ClassId} {h : Nat → Nat} {nl : Nat} {cc : ByteArray} {nL fr lo : Nat} {M : Mem} {pc : Nat} {V : List (Option Value)} {rest : List Value} (K : Kx x E D (tysOf ca) h (LaC ca h nl) RX4 cc nL fr lo) {v : Int32} (hd : decode cc pc = .ok (.putfield 26, 3)) (kk : Go x D (tysOf ca) h (LaC ca h nl) nL (sto M 54 4 v) (pc + 3) V (rest)) : Go x D (tysOf ca) h (LaC ca h nl) nL M (pc) V (.int v :: .ref (h 54) :: rest) := o_put K (ty := .int) tyX4 4 (upd (M 54) 4 v) (ltReader) (obReader_c (ca := ca) _) rfl (by decide) i_X4 tyX4_ok nmX4 q214 rfl rfl (by decide +kernel) rfl rfl (Nat.le_of_ble_eq_true rfl) (obReader_c (ca := ca) _) hd kk
theorem pC_X4_29 {x : En} {E : Amd} {D : va_G} {ca : Nat → ClassId} {h : Nat → Nat} {nl : Nat} {cc : ByteArray} {nL fr lo : Nat} {M : Mem} {pc : Nat} {V : List (Option Value)} {rest : List Value} (K : Kx x E D (tysOf ca) h (LaC ca h nl) RX4 cc nL fr lo) {v : Int32} (hd : decode cc pc = .ok (.putfield 29, 3)) (kk : Go x D (tysOf ca) h (LaC ca h nl) nL (sto M 54 6 v) (pc + 3) V (rest)) : Go x D (tysOf ca) h (LaC ca h nl) nL M (pc) V (.int v :: .ref (h 54) :: rest) := o_put K (ty := .int) tyX4 6 (upd (M 54) 6 v) (ltReader) (obReader_c (ca := ca) _) rfl (by decide) i_X4 tyX4_ok nmX4 q216 rfl rfl (by decide +kernel) rfl rfl (Nat.le_of_ble_eq_true rfl) (obReader_c (ca := ca) _) hd kk
theorem pC_X4_32 {x : En} {E : Amd} {D : va_G} {ca : Nat → ClassId} {h : Nat → Nat} {nl : Nat} {cc : ByteArray} {nL fr lo : Nat} {M : Mem} {pc : Nat} {V : List (Option Value)} {rest : List Value} (K : Kx x E D (tysOf ca) h (LaC ca h nl) RX4 cc nL fr lo) {v : Int32} (hd : decode cc pc = .ok (.putfield 32, 3)) (kk : Go x D (tysOf ca) h (LaC ca h nl) nL (sto M 54 8 v) (pc + 3) V (rest)) : Go x D (tysOf ca) h (LaC ca h nl) nL M (pc) V (.int v :: .ref (h 54) :: rest) := o_put K (ty := .int) tyX4 8 (upd (M 54) 8 v) (ltReader) (obReader_c (ca := ca) _) rfl (by decide) i_X4 tyX4_ok nmX4 q218 rfl rfl (by decide +kernel) rfl rfl (Nat.le_of_ble_eq_true rfl) (obReader_c (ca := ca) _) hd kk
theorem pC_X4_36 {x : En} {E : Amd} {D : va_G} {ca : Nat → ClassId} {h : Nat → Nat} {nl : Nat} {cc : ByteArray} {nL fr lo : Nat} {M : Mem} {pc : Nat} {V : List (Option Value)} {rest : List Value} (K : Kx x E D (tysOf ca) h (LaC ca h nl) RX4 cc nL fr lo) {v : Int32} (hd : decode cc pc = .ok (.putfield 36, 3)) (kk : Go x D (tysOf ca) h (LaC ca h nl) nL (sto M 54 9 v) (pc + 3) V (rest)) : Go x D (tysOf ca) h (LaC ca h nl) nL M (pc) V (.int v :: .ref (h 54) :: rest) := o_put K (ty := .int) tyX4 9 (upd (M 54) 9 v) (ltReader) (obReader_c (ca := ca) _) rfl (by decide) i_X4 tyX4_ok nmX4 q219 rfl rfl (by decide +kernel) rfl rfl (Nat.le_of_ble_eq_true rfl) (obReader_c (ca := ca) _) hd kk
theorem pC_X4_49 {x : En} {E : Amd} {D : va_G} {ca : Nat → ClassId} {h : Nat → Nat} {nl : Nat} {cc : ByteArray} {nL fr lo : Nat} {M : Mem} {pc : Nat} {V : List (Option Value)} {rest : List Value} (K : Kx x E D (tysOf ca) h (LaC ca h nl) RX4 cc nL fr lo) {v : Int32} (hd : decode cc pc = .ok (.putfield 49, 3)) (kk : Go x D (tysOf ca) h (LaC ca h nl) nL (sto M 54 2 v) (pc + 3) V (rest)) : Go x D (tysOf ca) h (LaC ca h nl) nL M (pc) V (.int v :: .ref (h 54) :: rest) := o_put K (ty := .int) tyX4 2 (upd (M 54) 2 v) (ltReader) (obReader_c (ca := ca) _) rfl (by decide) i_X4 tyX4_ok nmX4 q212 rfl rfl (by decide +kernel) rfl rfl (Nat.le_of_ble_eq_true rfl) (obReader_c (ca := ca) _) hd kk
theorem pC_X4_54 {x : En} {E : Amd} {D : va_G} {ca : Nat → ClassId} {h : Nat → Nat} {nl : Nat} {cc : ByteArray} {nL fr lo : Nat} {M : Mem} {pc : Nat} {V : List (Option Value)} {rest : List Value} (K : Kx x E D (tysOf ca) h (LaC ca h nl) RX4 cc nL fr lo) {v : Int32} (hd : decode cc pc = .ok (.putfield 54, 3)) (kk : Go x D (tysOf ca) h (LaC ca h nl) nL (sto M 54 5 v) (pc + 3) V (rest)) : Go x D (tysOf ca) h (LaC ca h nl) nL M (pc) V (.int v :: .ref (h 54) :: rest) := o_put K (ty := .int) tyX4 5 (upd (M 54) 5 v) (ltReader) (obReader_c (ca := ca) _) rfl (by decide) i_X4 tyX4_ok nmX4 q215 rfl rfl (by decide +kernel) rfl rfl (Nat.le_of_ble_eq_true rfl) (obReader_c (ca := ca) _) hd kk
theorem pC_X5_35 {x : En} {E : Amd} {D : va_G} {ca : Nat → ClassId} {h : Nat → Nat} {nl : Nat} {cc : ByteArray} {nL fr lo : Nat} {M : Mem} {pc : Nat} {V : List (Option Value)} {rest : List Value} {b : Nat} (hb : b < 3) (K : Kx x E D (tysOf ca) h (LaC ca h nl) RX5 cc nL fr lo) {v : Int32} (hd : decode cc pc = .ok (.putfield 35, 3)) (kk : Go x D (tysOf ca) h (LaC ca h nl) nL (sto M (HB b + 6) 0 v) (pc + 3) V (rest)) : Go x D (tysOf ca) h (LaC ca h nl) nL M (pc) V (.int v :: .ref (h (HB b + 6)) :: rest) := o_put K (ty := .int) tyX5 0 (upd (M (HB b + 6)) 0 v) (ltLaws hb) (obLaws_c (ca := ca) hb _) rfl (by decide) i_X5 tyX5_ok nmX5 q119 rfl rfl (by decide +kernel) rfl rfl (Nat.le_of_ble_eq_true rfl) (obLaws_c (ca := ca) hb _) hd kk
theorem pC_X6_11 {x : En} {E : Amd} {D : va_G} {ca : Nat → ClassId} {h : Nat → Nat} {nl : Nat} {cc : ByteArray} {nL fr lo : Nat} {M : Mem} {pc : Nat} {V : List (Option Value)} {rest : List Value} {s : Nat} (hs : ShOK ca h s) (K : Kx x E D (tysOf ca) h (LaC ca h nl) RX6 cc nL fr lo) {v : Int32} (hd : decode cc pc = .ok (.putfield 11, 3)) (kk : Go x D (tysOf ca) h (LaC ca h nl) nL (sto M s 0 v) (pc + 3) V (rest)) : Go x D (tysOf ca) h (LaC ca h nl) nL M (pc) V (.int v :: .ref (h s) :: rest) := o_put K (ty := .int) tyX6 0 (upd (M s) 0 v) (ltSheet hs) (obSheet_c (ca := ca) hs _) rfl (by decide) i_X6 tyX6_ok nmX6 q251 rfl rfl (by decide +kernel) rfl rfl (Nat.le_of_ble_eq_true rfl) (obSheet_c (ca := ca) hs _) hd kk
theorem pC_X6_19 {x : En} {E : Amd} {D : va_G} {ca : Nat → ClassId} {h : Nat → Nat} {nl : Nat} {cc : ByteArray} {nL fr lo : Nat} {M : Mem} {pc : Nat} {V : List (Option Value)} {rest : List Value} {s : Nat} (hs : ShOK ca h s) (K : Kx x E D (tysOf ca) h (LaC ca h nl) RX6 cc nL fr lo) {v : Int32} (hd : decode cc pc = .ok (.putfield 19, 3)) (kk : Go x D (tysOf ca) h (LaC ca h nl) nL (sto M s 1 v) (pc + 3) V (rest)) : Go x D (tysOf ca) h (LaC ca h nl) nL M (pc) V (.int v :: .ref (h s) :: rest) := o_put K (ty := .int) tyX6 1 (upd (M s) 1 v) (ltSheet hs) (obSheet_c (ca := ca) hs _) rfl (by decide) i_X6 tyX6_ok nmX6 q253 rfl rfl (by decide +kernel) rfl rfl (Nat.le_of_ble_eq_true rfl) (obSheet_c (ca := ca) hs _) hd kk
theorem pC_X8_40 {x : En} {E : Amd} {D : va_G} {ca : Nat → ClassId} {h : Nat → Nat} {nl : Nat} {cc : ByteArray} {nL fr lo : Nat} {M : Mem} {pc : Nat} {V : List (Option Value)} {rest : List Value} {b : Nat} (hb : b < 3) (K : Kx x E D (tysOf ca) h (LaC ca h nl) RX8 cc nL fr lo) {v : Int32} (hd : decode cc pc = .ok (.putfield 40, 3)) (kk : Go x D (tysOf ca) h (LaC ca h nl) nL (sto M (HB b + 1) 1 v) (pc + 3) V (rest)) : Go x D (tysOf ca) h (LaC ca h nl) nL M (pc) V (.int v :: .ref (h (HB b + 1)) :: rest) := o_put K (ty := .int) tyX0 1 (upd (M (HB b + 1)) 1 v) (ltDoors hb) (obDoors_c (ca := ca) hb _) rfl (by decide) i_X0 tyX0_ok nmX0 q46 rfl rfl (by decide +kernel) rfl rfl (Nat.le_of_ble_eq_true rfl) (obDoors_c (ca := ca) hb _) hd kk
theorem pC_X9_147 {x : En} {E : Amd} {D : va_G} {ca : Nat → ClassId} {h : Nat → Nat} {nl : Nat} {cc : ByteArray} {nL fr lo : Nat} {M : Mem} {pc : Nat} {V : List (Option Value)} {rest : List Value} {b : Nat} (hb : b < 3) (K : Kx x E D (tysOf ca) h (LaC ca h nl) RX9 cc nL fr lo) {v : Int32} (hd : decode cc pc = .ok (.putfield 147, 3)) (kk : Go x D (tysOf ca) h (LaC ca h nl) nL (sto M (HB b) 8 v) (pc + 3) V (rest)) : Go x D (tysOf ca) h (LaC ca h nl) nL M (pc) V (.int v :: .ref (h (HB b)) :: rest) := o_put K (ty := .int) tyX1 8 (upd (M (HB b)) 8 v) (ltHall hb) (obHall_c (ca := ca) hb _) rfl (by decide) i_X1 tyX1_ok nmX1 q161 rfl rfl (by decide +kernel) rfl rfl (Nat.le_of_ble_eq_true rfl) (obHall_c (ca := ca) hb _) hd kk
theorem pC_X9_235 {x : En} {E : Amd} {D : va_G} {ca : Nat → ClassId} {h : Nat → Nat} {nl : Nat} {cc : ByteArray} {nL fr lo : Nat} {M : Mem} {pc : Nat} {V : List (Option Value)} {rest : List Value} (K : Kx x E D (tysOf ca) h (LaC ca h nl) RX9 cc nL fr lo) {v : Int32} (hd : decode cc pc = .ok (.putfield 235, 3)) (kk : Go x D (tysOf ca) h (LaC ca h nl) nL (sto M 54 1 v) (pc + 3) V (rest)) : Go x D (tysOf ca) h (LaC ca h nl) nL M (pc) V (.int v :: .ref (h 54) :: rest) := o_put K (ty := .int) tyX4 1 (upd (M 54) 1 v) (ltReader) (obReader_c (ca := ca) _) rfl (by decide) i_X4 tyX4_ok nmX4 q211 rfl rfl (by decide +kernel) rfl rfl (Nat.le_of_ble_eq_true rfl) (obReader_c (ca := ca) _) hd kk
theorem pC_X9_305 {x : En} {E : Amd} {D : va_G} {ca : Nat → ClassId} {h : Nat → Nat} {nl : Nat} {cc : ByteArray} {nL fr lo : Nat} {M : Mem} {pc : Nat} {V : List (Option Value)} {rest : List Value} {i : Nat} (hi : i < 5) (K : Kx x E D (tysOf ca) h (LaC ca h nl) RX9 cc nL fr lo) {v : Int32} (hd : decode cc pc = .ok (.putfield 305, 3)) (kk : Go x D (tysOf ca) h (LaC ca h nl) nL (sto M (66 + 3 * i) 0 v) (pc + 3) V (rest)) : Go x D (tysOf ca) h (LaC ca h nl) nL M (pc) V (.int v :: .ref (h (66 + 3 * i)) :: rest) := o_put K (ty := .int) tyX7 0 (upd (M (66 + 3 * i)) 0 v) (ltSlot hi) (obSlot_c (ca := ca) hi _) rfl (by decide) i_X7 tyX7_ok nmX7 q273 rfl rfl (by decide +kernel) rfl rfl (Nat.le_of_ble_eq_true rfl) (obSlot_c (ca := ca) hi _) hd kk
theorem pC_X9_308 {x : En} {E : Amd} {D : va_G} {ca : Nat → ClassId} {h : Nat → Nat} {nl : Nat} {cc : ByteArray} {nL fr lo : Nat} {M : Mem} {pc : Nat} {V : List (Option Value)} {rest : List Value} {i : Nat} (hi : i < 5) (K : Kx x E D (tysOf ca) h (LaC ca h nl) RX9 cc nL fr lo) {v : Int32} (hd : decode cc pc = .ok (.putfield 308, 3)) (kk : Go x D (tysOf ca) h (LaC ca h nl) nL (sto M (66 + 3 * i) 1 v) (pc + 3) V (rest)) : Go x D (tysOf ca) h (LaC ca h nl) nL M (pc) V (.int v :: .ref (h (66 + 3 * i)) :: rest) := o_put K (ty := .int) tyX7 1 (upd (M (66 + 3 * i)) 1 v) (ltSlot hi) (obSlot_c (ca := ca) hi _) rfl (by decide) i_X7 tyX7_ok nmX7 q274 rfl rfl (by decide +kernel) rfl rfl (Nat.le_of_ble_eq_true rfl) (obSlot_c (ca := ca) hi _) hd kk
theorem pC_X9_310 {x : En} {E : Amd} {D : va_G} {ca : Nat → ClassId} {h : Nat → Nat} {nl : Nat} {cc : ByteArray} {nL fr lo : Nat} {M : Mem} {pc : Nat} {V : List (Option Value)} {rest : List Value} {i : Nat} (hi : i < 5) (K : Kx x E D (tysOf ca) h (LaC ca h nl) RX9 cc nL fr lo) {v : Int32} (hd : decode cc pc = .ok (.putfield 310, 3)) (kk : Go x D (tysOf ca) h (LaC ca h nl) nL (sto M (66 + 3 * i) 2 v) (pc + 3) V (rest)) : Go x D (tysOf ca) h (LaC ca h nl) nL M (pc) V (.int v :: .ref (h (66 + 3 * i)) :: rest) := o_put K (ty := .int) tyX7 2 (upd (M (66 + 3 * i)) 2 v) (ltSlot hi) (obSlot_c (ca := ca) hi _) rfl (by decide) i_X7 tyX7_ok nmX7 q275 rfl rfl (by decide +kernel) rfl rfl (Nat.le_of_ble_eq_true rfl) (obSlot_c (ca := ca) hi _) hd kk
theorem pC_X9_320 {x : En} {E : Amd} {D : va_G} {ca : Nat → ClassId} {h : Nat → Nat} {nl : Nat} {cc : ByteArray} {nL fr lo : Nat} {M : Mem} {pc : Nat} {V : List (Option Value)} {rest : List Value} {i : Nat} (hi : i < 5) (K : Kx x E D (tysOf ca) h (LaC ca h nl) RX9 cc nL fr lo) {v : Int32} (hd : decode cc pc = .ok (.putfield 320, 3)) (kk : Go x D (tysOf ca) h (LaC ca h nl) nL (sto M (66 + 3 * i) 3 v) (pc + 3) V (rest)) : Go x D (tysOf ca) h (LaC ca h nl) nL M (pc) V (.int v :: .ref (h (66 + 3 * i)) :: rest) := o_put K (ty := .int) tyX7 3 (upd (M (66 + 3 * i)) 3 v) (ltSlot hi) (obSlot_c (ca := ca) hi _) rfl (by decide) i_X7 tyX7_ok nmX7 q276 rfl rfl (by decide +kernel) rfl rfl (Nat.le_of_ble_eq_true rfl) (obSlot_c (ca := ca) hi _) hd kk
theorem pC_X9_324 {x : En} {E : Amd} {D : va_G} {ca : Nat → ClassId} {h : Nat → Nat} {nl : Nat} {cc : ByteArray} {nL fr lo : Nat} {M : Mem} {pc : Nat} {V : List (Option Value)} {rest : List Value} (K : Kx x E D (tysOf ca) h (LaC ca h nl) RX9 cc nL fr lo) {v : Int32} (hd : decode cc pc = .ok (.putfield 324, 3)) (kk : Go x D (tysOf ca) h (LaC ca h nl) nL (sto M 0 10 v) (pc + 3) V (rest)) : Go x D (tysOf ca) h (LaC ca h nl) nL M (pc) V (.int v :: .ref (h 0) :: rest) := o_put K (ty := .int) tyX9 8 (upd (M 0) 10 v) (ltOne) (obOne_c (ca := ca) _) rfl (by decide) i_X9 tyX9_ok nmX9 q298 rfl rfl (by decide +kernel) rfl rfl (Nat.le_of_ble_eq_true rfl) (obOne_c (ca := ca) _) hd kk
theorem pC_X9_327 {x : En} {E : Amd} {D : va_G} {ca : Nat → ClassId} {h : Nat → Nat} {nl : Nat} {cc : ByteArray} {nL fr lo : Nat} {M : Mem} {pc : Nat} {V : List (Option Value)} {rest : List Value} (K : Kx x E D (tysOf ca) h (LaC ca h nl) RX9 cc nL fr lo) {v : Int32} (hn : narrow .boolean (.int v) = .int v) (hfit : fits .boolean (.int v) = true) (hd : decode cc pc = .ok (.putfield 327, 3)) (kk : Go x D (tysOf ca) h (LaC ca h nl) nL (sto M 0 2 v) (pc + 3) V (rest)) : Go x D (tysOf ca) h (LaC ca h nl) nL M (pc) V (.int v :: .ref (h 0) :: rest) := o_put K (ty := .boolean) tyX9 2 (upd (M 0) 2 v) (ltOne) (obOne_c (ca := ca) _) rfl (by decide) i_X9 tyX9_ok nmX9 q292 rfl rfl (by decide +kernel) hn hfit (Nat.le_of_ble_eq_true rfl) (obOne_c (ca := ca) _) hd kk
theorem s_X9_51 : CsS RX9 51 yX2_isKind cX2_isKind 1 (some .boolean) 1 := ⟨q324, q7, q322, q323, by decide +kernel, by decide +kernel, by decide +kernel⟩
theorem s_X9_57 : CsS RX9 57 yX9_isRoom cX9_isRoom 1 (some .boolean) 1 := ⟨q328, q1, q326, q327, by decide +kernel, by decide +kernel, by decide +kernel⟩
theorem s_X9_60 : CsS RX9 60 yX9_isWithin cX9_isWithin 3 (some .boolean) 3 := ⟨q98, q1, q329, q97, by decide +kernel, by decide +kernel, by decide +kernel⟩
theorem s_X9_76 : CsV RX9 76 yX0_add cX0_add 6 (some .int) 4 := ⟨q335, q3, q332, q333, q334, by decide +kernel, by decide +kernel, by decide +kernel⟩
theorem s_X9_80 : CsV RX9 80 yX0_has cX0_has 2 (some .boolean) 1 := ⟨q343, q3, q340, q341, q342, by decide +kernel, by decide +kernel, by decide +kernel⟩
theorem s_X9_95 : CsV RX9 95 yX0_isOpen cX0_isOpen 2 (some .boolean) 1 := ⟨q348, q3, q345, q346, q347, by decide +kernel, by decide +kernel, by decide +kernel⟩
theorem s_X9_98 : CsV RX9 98 yX1_letsOf cX1_letsOf 2 (some .int) 1 := ⟨q352, q2, q349, q350, q351, by decide +kernel, by decide +kernel, by decide +kernel⟩
theorem s_X9_102 : CsV RX9 102 yX1_flowOf cX1_flowOf 2 (some .int) 1 := ⟨q360, q2, q357, q358, q359, by decide +kernel, by decide +kernel, by decide +kernel⟩
theorem s_X9_105 : CsS RX9 105 yX2_worthOf cX2_worthOf 4 (some .int) 2 := ⟨q364, q7, q362, q363, by decide +kernel, by decide +kernel, by decide +kernel⟩
theorem s_X9_109 : CsS RX9 109 yX2_isOf cX2_isOf 4 (some .boolean) 2 := ⟨q371, q7, q369, q370, by decide +kernel, by decide +kernel, by decide +kernel⟩
theorem s_X9_114 : CsV RX9 114 yX0_swing cX0_swing 3 none 2 := ⟨q386, q3, q383, q384, q385, by decide +kernel, by decide +kernel, by decide +kernel⟩
theorem s_X9_127 : CsV RX9 127 yX1_isLit cX1_isLit 2 (some .boolean) 1 := ⟨q394, q2, q391, q392, q393, by decide +kernel, by decide +kernel, by decide +kernel⟩
theorem s_X9_130 : CsV RX9 130 yX1_draughtOf cX1_draughtOf 2 (some .int) 1 := ⟨q398, q2, q395, q396, q397, by decide +kernel, by decide +kernel, by decide +kernel⟩
theorem s_X9_133 : CsS RX9 133 yX9_mostOf cX9_mostOf 1 (some .int) 1 := ⟨q413, q1, q411, q412, by decide +kernel, by decide +kernel, by decide +kernel⟩
theorem s_X9_136 : CsV RX9 136 yX1_light cX1_light 3 none 2 := ⟨q417, q2, q414, q415, q416, by decide +kernel, by decide +kernel, by decide +kernel⟩
theorem s_X9_144 : CsV RX9 144 yX1_drawDoor cX1_drawDoor 5 none 0 := ⟨q429, q2, q426, q427, q428, by decide +kernel, by decide +kernel, by decide +kernel⟩
theorem s_X9_150 : CsV RX9 150 yX1_litMany cX1_litMany 1 (some .int) 0 := ⟨q448, q2, q445, q446, q447, by decide +kernel, by decide +kernel, by decide +kernel⟩
theorem s_X9_154 : CsV RX9 154 yX1_minutesLeft cX1_minutesLeft 1 (some .int) 0 := ⟨q458, q2, q455, q456, q457, by decide +kernel, by decide +kernel, by decide +kernel⟩
theorem s_X9_157 : CsV RX9 157 yX1_passMinute cX1_passMinute 1 none 0 := ⟨q463, q2, q460, q461, q462, by decide +kernel, by decide +kernel, by decide +kernel⟩
theorem s_X9_160 : CsV RX9 160 yX0_openMany cX0_openMany 1 (some .int) 0 := ⟨q493, q3, q490, q491, q492, by decide +kernel, by decide +kernel, by decide +kernel⟩
theorem s_X9_163 : CsV RX9 163 yX1_goRound cX1_goRound 3 none 1 := ⟨q498, q2, q495, q496, q497, by decide +kernel, by decide +kernel, by decide +kernel⟩
theorem s_X9_170 : CsV RX9 170 yX1_airOfAll cX1_airOfAll 3 (some .int) 0 := ⟨q506, q2, q503, q504, q505, by decide +kernel, by decide +kernel, by decide +kernel⟩
theorem s_X9_173 : CsV RX9 173 yX1_scentOfAll cX1_scentOfAll 3 (some .int) 0 := ⟨q510, q2, q507, q508, q509, by decide +kernel, by decide +kernel, by decide +kernel⟩
theorem s_X9_182 : CsV RX9 182 yX8_behindMinutes cX8_behindMinutes 4 (some (.object "OneDraught$Hall")) 2 := ⟨q518, q9, q515, q516, q517, by decide +kernel, by decide +kernel, by decide +kernel⟩
theorem s_X9_186 : CsV RX9 186 yX8_minutesUntilStill cX8_minutesUntilStill 3 (some .int) 1 := ⟨q545, q9, q542, q543, q544, by decide +kernel, by decide +kernel, by decide +kernel⟩
theorem s_X9_190 : CsV RX9 190 yX8_fewestToShut cX8_fewestToShut 9 (some .int) 4 := ⟨q560, q9, q557, q558, q559, by decide +kernel, by decide +kernel, by decide +kernel⟩
theorem s_X9_194 : CsV RX9 194 yX8_roomsThatSmell cX8_roomsThatSmell 6 (some .int) 3 := ⟨q574, q9, q571, q572, q573, by decide +kernel, by decide +kernel, by decide +kernel⟩
theorem s_X9_198 : CsV RX9 198 yX8_litWith cX8_litWith 6 (some .int) 4 := ⟨q584, q9, q581, q582, q583, by decide +kernel, by decide +kernel, by decide +kernel⟩
theorem s_X9_202 : CsV RX9 202 yX8_allStayLit cX8_allStayLit 5 (some .boolean) 3 := ⟨q594, q9, q591, q592, q593, by decide +kernel, by decide +kernel, by decide +kernel⟩
theorem s_X9_207 : CsS RX9 207 yX9_isSheet cX9_isSheet 1 (some .boolean) 1 := ⟨q602, q1, q600, q601, by decide +kernel, by decide +kernel, by decide +kernel⟩
theorem s_X9_210 : CsV RX9 210 yX6_isMissing cX6_isMissing 1 (some .boolean) 0 := ⟨q606, q11, q603, q604, q605, by decide +kernel, by decide +kernel, by decide +kernel⟩
theorem s_X9_215 : CsV RX9 215 yX8_likeliestDoor cX8_likeliestDoor 8 (some .int) 3 := ⟨q611, q9, q608, q609, q610, by decide +kernel, by decide +kernel, by decide +kernel⟩
theorem s_X9_219 : CsV RX9 219 yX8_differenceWith cX8_differenceWith 7 (some .int) 4 := ⟨q615, q9, q628, q613, q614, by decide +kernel, by decide +kernel, by decide +kernel⟩
theorem s_X9_232 : CsV RX9 232 yX5_valueOf cX5_valueOf 6 (some .int) 4 := ⟨q91, q4, q633, q89, q90, by decide +kernel, by decide +kernel, by decide +kernel⟩
theorem s_X9_238 : CsV RX9 238 yX4_putBytes cX4_putBytes 3 none 1 := ⟨q641, q10, q638, q639, q640, by decide +kernel, by decide +kernel, by decide +kernel⟩
theorem s_X9_252 : CsV RX9 252 yX5_lawAt cX5_lawAt 2 (some (.object "OneDraught$Law")) 1 := ⟨q95, q4, q873, q93, q94, by decide +kernel, by decide +kernel, by decide +kernel⟩
theorem s_X9_267 : CsV RX9 267 yX6_become cX6_become 3 none 2 := ⟨q885, q11, q882, q883, q884, by decide +kernel, by decide +kernel, by decide +kernel⟩
theorem s_X9_272 : CsV RX9 272 yX6_has cX6_has 2 (some .boolean) 1 := ⟨q624, q11, q892, q622, q623, by decide +kernel, by decide +kernel, by decide +kernel⟩
theorem s_X9_282 : CsV RX9 282 yX6_hasNumber cX6_hasNumber 2 (some .boolean) 1 := ⟨q620, q11, q900, q618, q619, by decide +kernel, by decide +kernel, by decide +kernel⟩
theorem s_X9_285 : CsS RX9 285 yX9_heldWithin cX9_heldWithin 3 (some .int) 3 := ⟨q108, q1, q901, q107, by decide +kernel, by decide +kernel, by decide +kernel⟩
theorem s_X9_290 : CsV RX9 290 yX6_hasRange cX6_hasRange 3 (some .boolean) 2 := ⟨q913, q11, q910, q911, q912, by decide +kernel, by decide +kernel, by decide +kernel⟩
theorem s_X9_299 : CsS RX9 299 yX9_isSlot cX9_isSlot 1 (some .boolean) 1 := ⟨q921, q1, q919, q920, by decide +kernel, by decide +kernel, by decide +kernel⟩
theorem s_X9_302 : CsV RX9 302 yX9_canLay cX9_canLay 3 (some .boolean) 2 := ⟨q925, q1, q922, q924, (TB_p 17 (by decide +kernel) (by decide +kernel)), by decide +kernel, by decide +kernel, by decide +kernel⟩
theorem s_X9_316 : CsV RX9 316 yX6_takeFrom cX6_takeFrom 2 none 1 := ⟨q929, q11, q926, q927, q928, by decide +kernel, by decide +kernel, by decide +kernel⟩
theorem s_X9_331 : CsV RX9 331 yX8_rightOnes cX8_rightOnes 8 (some .int) 4 := ⟨q955, q9, q952, q953, q954, by decide +kernel, by decide +kernel, by decide +kernel⟩
theorem s_X9_335 : CsV RX9 335 yX1_takeFrom cX1_takeFrom 2 none 1 := ⟨q522, q2, q963, q520, q521, by decide +kernel, by decide +kernel, by decide +kernel⟩
theorem s_X0_35 : CsN RX0 35 yX9_isWithin "OneDraught" cX9_isWithin 3 (some .boolean) 3 := ⟨q98, q1, (List.mem_of_getElem? (i := 4) rfl), q97, by decide +kernel, by decide +kernel, by decide +kernel⟩
theorem s_X0_41 : CsS RX0 41 yJ6_bitCount_0f7a4 cJ6_bitCount_0f7a4 1 (some .int) 1 := ⟨q451, q14, q494, q450, by decide +kernel, by decide +kernel, by decide +kernel⟩
theorem s_X1_48 : CsS RX1 48 yJ7_fill_53178 cJ7_fill_53178 4 none 2 := ⟨q139, q8, q137, q138, by decide +kernel, by decide +kernel, by decide +kernel⟩
theorem s_X1_54 : CsV RX1 54 yX0_takeFrom cX0_takeFrom 2 none 1 := ⟨q526, q3, q523, q524, q525, by decide +kernel, by decide +kernel, by decide +kernel⟩
theorem s_X1_58 : CsV RX1 58 yX5_takeFrom cX5_takeFrom 3 none 1 := ⟨q531, q4, q528, q529, q530, by decide +kernel, by decide +kernel, by decide +kernel⟩
theorem s_X1_61 : CsV RX1 61 yX1_takeAirFrom cX1_takeAirFrom 2 none 1 := ⟨q536, q2, q533, q534, q535, by decide +kernel, by decide +kernel, by decide +kernel⟩
theorem s_X1_80 : CsS RX1 80 yJ6_bitCount_0f7a4 cJ6_bitCount_0f7a4 1 (some .int) 1 := ⟨q451, q14, q449, q450, by decide +kernel, by decide +kernel, by decide +kernel⟩
theorem s_X1_101 : CsV RX1 101 yX5_letsOf cX5_letsOf 4 (some .int) 3 := ⟨q356, q4, q353, q354, q355, by decide +kernel, by decide +kernel, by decide +kernel⟩
theorem s_X1_111 : CsV RX1 111 yX1_letsOf cX1_letsOf 2 (some .int) 1 := ⟨q352, q2, q361, q350, q351, by decide +kernel, by decide +kernel, by decide +kernel⟩
theorem s_X1_113 : CsV RX1 113 yX1_measureFlows cX1_measureFlows 3 none 0 := ⟨q402, q2, q399, q400, q401, by decide +kernel, by decide +kernel, by decide +kernel⟩
theorem s_X1_119 : CsV RX1 119 yX1_flowOf cX1_flowOf 2 (some .int) 1 := ⟨q360, q2, q403, q358, q359, by decide +kernel, by decide +kernel, by decide +kernel⟩
theorem s_X1_129 : CsV RX1 129 yX1_isLit cX1_isLit 2 (some .boolean) 1 := ⟨q394, q2, q482, q392, q393, by decide +kernel, by decide +kernel, by decide +kernel⟩
theorem s_X1_133 : CsV RX1 133 yX5_valueOf cX5_valueOf 6 (some .int) 4 := ⟨q91, q4, q483, q89, q90, by decide +kernel, by decide +kernel, by decide +kernel⟩
theorem s_X1_137 : CsN RX1 137 yX9_heldWithin "OneDraught" cX9_heldWithin 3 (some .int) 3 := ⟨q108, q1, (List.mem_of_getElem? (i := 6) rfl), q107, by decide +kernel, by decide +kernel, by decide +kernel⟩
theorem s_X1_140 : CsV RX1 140 yX1_light cX1_light 3 none 2 := ⟨q417, q2, q485, q415, q416, by decide +kernel, by decide +kernel, by decide +kernel⟩
theorem s_X1_144 : CsV RX1 144 yX1_carryScent cX1_carryScent 8 none 0 := ⟨q467, q2, q464, q465, q466, by decide +kernel, by decide +kernel, by decide +kernel⟩
theorem s_X1_147 : CsV RX1 147 yX1_moveAir cX1_moveAir 2 none 0 := ⟨q477, q2, q474, q475, q476, by decide +kernel, by decide +kernel, by decide +kernel⟩
theorem s_X1_150 : CsV RX1 150 yX1_snuffCandles cX1_snuffCandles 3 none 0 := ⟨q481, q2, q478, q480, (TB_p 2 (by decide +kernel) (by decide +kernel)), by decide +kernel, by decide +kernel, by decide +kernel⟩
theorem s_X1_154 : CsV RX1 154 yX1_draw cX1_draw 1 (some .int) 0 := ⟨q433, q2, q430, q432, (TB_p 1 (by decide +kernel) (by decide +kernel)), by decide +kernel, by decide +kernel, by decide +kernel⟩
theorem s_X1_160 : CsV RX1 160 yX0_add cX0_add 6 (some .int) 4 := ⟨q335, q3, q435, q333, q334, by decide +kernel, by decide +kernel, by decide +kernel⟩
theorem s_X1_163 : CsV RX1 163 yX0_swing cX0_swing 3 none 2 := ⟨q386, q3, q436, q384, q385, by decide +kernel, by decide +kernel, by decide +kernel⟩
theorem s_X2_9 : CsN RX2 9 yX9_isWithin "OneDraught" cX9_isWithin 3 (some .boolean) 3 := ⟨q98, q1, (List.mem_of_getElem? (i := 7) rfl), q97, by decide +kernel, by decide +kernel, by decide +kernel⟩
theorem s_X3_20 : CsS RX3 20 yX3_joined cX3_joined 3 (some .int) 3 := ⟨q105, q5, q103, q104, by decide +kernel, by decide +kernel, by decide +kernel⟩
theorem s_X5_32 : CsV RX5 32 yX5_workOutLets cX5_workOutLets 5 none 0 := ⟨q87, q4, q84, q86, (TB_p 0 (by decide +kernel) (by decide +kernel)), by decide +kernel, by decide +kernel, by decide +kernel⟩
theorem s_X5_48 : CsN RX5 48 yX9_isWithin "OneDraught" cX9_isWithin 3 (some .boolean) 3 := ⟨q98, q1, (List.mem_of_getElem? (i := 8) rfl), q97, by decide +kernel, by decide +kernel, by decide +kernel⟩
theorem s_X5_52 : CsV RX5 52 yX5_lawAt cX5_lawAt 2 (some (.object "OneDraught$Law")) 1 := ⟨q95, q4, q92, q93, q94, by decide +kernel, by decide +kernel, by decide +kernel⟩
theorem s_X5_56 : CsV RX5 56 yX3_valueWith cX3_valueWith 7 (some .int) 3 := ⟨q102, q5, q99, q100, q101, by decide +kernel, by decide +kernel, by decide +kernel⟩
theorem s_X5_60 : CsV RX5 60 yX5_valueOf cX5_valueOf 6 (some .int) 4 := ⟨q91, q4, q88, q89, q90, by decide +kernel, by decide +kernel, by decide +kernel⟩
theorem s_X5_64 : CsN RX5 64 yX9_heldWithin "OneDraught" cX9_heldWithin 3 (some .int) 3 := ⟨q108, q1, (List.mem_of_getElem? (i := 9) rfl), q107, by decide +kernel, by decide +kernel, by decide +kernel⟩
theorem s_X5_68 : CsS RX5 68 yX2_letsOf cX2_letsOf 6 (some .int) 4 := ⟨q117, q7, q115, q116, by decide +kernel, by decide +kernel, by decide +kernel⟩
theorem s_X6_22 : CsS RX6 22 yJ7_fill_53178 cJ7_fill_53178 4 none 2 := ⟨q139, q8, q886, q138, by decide +kernel, by decide +kernel, by decide +kernel⟩
theorem s_X6_34 : CsN RX6 34 yX9_isWithin "OneDraught" cX9_isWithin 3 (some .boolean) 3 := ⟨q98, q1, (List.mem_of_getElem? (i := 10) rfl), q97, by decide +kernel, by decide +kernel, by decide +kernel⟩
theorem s_X6_38 : CsV RX6 38 yX6_has cX6_has 2 (some .boolean) 1 := ⟨q624, q11, q621, q622, q623, by decide +kernel, by decide +kernel, by decide +kernel⟩
theorem s_X4_39 : CsV RX4 39 yX4_step cX4_step 3 none 0 := ⟨q658, q10, q655, q657, (TB_p 4 (by decide +kernel) (by decide +kernel)), by decide +kernel, by decide +kernel, by decide +kernel⟩
theorem s_X4_42 : CsV RX4 42 yX4_readKey cX4_readKey 1 none 0 := ⟨q666, q10, q663, q665, (TB_p 6 (by decide +kernel) (by decide +kernel)), by decide +kernel, by decide +kernel, by decide +kernel⟩
theorem s_X4_45 : CsV RX4 45 yX4_readLevel cX4_readLevel 7 none 3 := ⟨q725, q10, q722, q724, (TB_p 8 (by decide +kernel) (by decide +kernel)), by decide +kernel, by decide +kernel, by decide +kernel⟩
theorem s_X4_68 : CsV RX4 68 yX4_isWord cX4_isWord 3 (some .boolean) 1 := ⟨q671, q10, q668, q670, (TB_p 7 (by decide +kernel) (by decide +kernel)), by decide +kernel, by decide +kernel, by decide +kernel⟩
theorem s_X4_88 : CsV RX4 88 yX4_readPiece cX4_readPiece 3 none 2 := ⟨q729, q10, q726, q728, (TB_p 9 (by decide +kernel) (by decide +kernel)), by decide +kernel, by decide +kernel, by decide +kernel⟩
theorem s_X4_92 : CsS RX4 92 yX4_signsOf cX4_signsOf 1 (some (.object "java/lang/String")) 1 := ⟨q824, q10, q822, q823, by decide +kernel, by decide +kernel, by decide +kernel⟩
theorem s_X4_96 : CsV RX4 96 yX4_isSignOf cX4_isSignOf 2 (some .boolean) 1 := ⟨q760, q10, q757, q759, (TB_p 15 (by decide +kernel) (by decide +kernel)), by decide +kernel, by decide +kernel, by decide +kernel⟩
theorem s_X4_99 : CsV RX4 99 yX4_put cX4_put 2 none 1 := ⟨q741, q10, q738, q740, (TB_p 12 (by decide +kernel) (by decide +kernel)), by decide +kernel, by decide +kernel, by decide +kernel⟩
theorem s_X4_103 : CsV RX4 103 yX4_numberRead cX4_numberRead 3 (some .int) 0 := ⟨q733, q10, q730, q732, (TB_p 10 (by decide +kernel) (by decide +kernel)), by decide +kernel, by decide +kernel, by decide +kernel⟩
theorem s_X4_107 : CsV RX4 107 yX4_putLeaf cX4_putLeaf 2 none 1 := ⟨q737, q10, q734, q736, (TB_p 11 (by decide +kernel) (by decide +kernel)), by decide +kernel, by decide +kernel, by decide +kernel⟩
theorem s_X4_110 : CsV RX4 110 yX4_firstName cX4_firstName 1 (some (.object "java/lang/String")) 0 := ⟨q745, q10, q742, q744, (TB_p 13 (by decide +kernel) (by decide +kernel)), by decide +kernel, by decide +kernel, by decide +kernel⟩
theorem s_X4_114 : CsV RX4 114 yX4_secondName cX4_secondName 1 (some (.object "java/lang/String")) 0 := ⟨q752, q10, q749, q751, (TB_p 14 (by decide +kernel) (by decide +kernel)), by decide +kernel, by decide +kernel, by decide +kernel⟩
theorem s_X4_121 : CsV RX4 121 yX4_closeBracket cX4_closeBracket 1 none 0 := ⟨q820, q10, q817, q819, (TB_p 16 (by decide +kernel) (by decide +kernel)), by decide +kernel, by decide +kernel, by decide +kernel⟩
theorem s_X4_138 : CsV RX4 138 yJ0_length_8abf5 cJ0_length_8abf5 1 (some .int) 0 := ⟨q675, q16, q672, q673, q674, by decide +kernel, by decide +kernel, by decide +kernel⟩
theorem s_X4_142 : CsV RX4 142 yJ0_charAt_5068e cJ0_charAt_5068e 2 (some .char) 1 := ⟨q685, q16, q682, q683, q684, by decide +kernel, by decide +kernel, by decide +kernel⟩
theorem s_X4_146 : CsV RX4 146 yJ0_indexOf_0f7a4 cJ0_indexOf_0f7a4 2 (some .int) 1 := ⟨q764, q16, q761, q762, q763, by decide +kernel, by decide +kernel, by decide +kernel⟩
theorem s_X4_150 : CsV RX4 150 yX4_sortAt cX4_sortAt 3 (some .int) 1 := ⟨q662, q10, q659, q661, (TB_p 5 (by decide +kernel) (by decide +kernel)), by decide +kernel, by decide +kernel, by decide +kernel⟩
theorem s_X8_18 : CsV RX8 18 yX1_takeFrom cX1_takeFrom 2 none 1 := ⟨q522, q2, q519, q520, q521, by decide +kernel, by decide +kernel, by decide +kernel⟩
theorem s_X8_22 : CsV RX8 22 yX1_passMinute cX1_passMinute 1 none 0 := ⟨q463, q2, q537, q461, q462, by decide +kernel, by decide +kernel, by decide +kernel⟩
theorem s_X8_25 : CsV RX8 25 yX1_measureFlows cX1_measureFlows 3 none 0 := ⟨q402, q2, q546, q400, q401, by decide +kernel, by decide +kernel, by decide +kernel⟩
theorem s_X8_28 : CsV RX8 28 yX1_flowsAreNought cX1_flowsAreNought 2 (some .boolean) 0 := ⟨q550, q2, q547, q548, q549, by decide +kernel, by decide +kernel, by decide +kernel⟩
theorem s_X8_32 : CsV RX8 32 yX1_moveAir cX1_moveAir 2 none 0 := ⟨q477, q2, q551, q475, q476, by decide +kernel, by decide +kernel, by decide +kernel⟩
theorem s_X8_46 : CsS RX8 46 yJ6_bitCount_0f7a4 cJ6_bitCount_0f7a4 1 (some .int) 1 := ⟨q451, q14, q561, q450, by decide +kernel, by decide +kernel, by decide +kernel⟩
theorem s_X8_52 : CsV RX8 52 yX1_takeAirFrom cX1_takeAirFrom 2 none 1 := ⟨q536, q2, q562, q534, q535, by decide +kernel, by decide +kernel, by decide +kernel⟩
theorem s_X8_55 : CsV RX8 55 yX8_isCalm cX8_isCalm 5 (some .boolean) 3 := ⟨q566, q9, q563, q565, (TB_p 3 (by decide +kernel) (by decide +kernel)), by decide +kernel, by decide +kernel, by decide +kernel⟩
theorem s_X8_66 : CsS RX8 66 yJ7_fill_53178 cJ7_fill_53178 4 none 2 := ⟨q139, q8, q575, q138, by decide +kernel, by decide +kernel, by decide +kernel⟩
theorem s_X8_72 : CsV RX8 72 yX1_carryScent cX1_carryScent 8 none 0 := ⟨q467, q2, q576, q465, q466, by decide +kernel, by decide +kernel, by decide +kernel⟩
theorem s_X8_75 : CsV RX8 75 yX0_swing cX0_swing 3 none 2 := ⟨q386, q3, q585, q384, q385, by decide +kernel, by decide +kernel, by decide +kernel⟩
theorem s_X8_79 : CsV RX8 79 yX1_litMany cX1_litMany 1 (some .int) 0 := ⟨q448, q2, q586, q446, q447, by decide +kernel, by decide +kernel, by decide +kernel⟩
theorem s_X8_92 : CsV RX8 92 yX8_differenceWith cX8_differenceWith 7 (some .int) 4 := ⟨q615, q9, q612, q613, q614, by decide +kernel, by decide +kernel, by decide +kernel⟩
theorem s_X8_96 : CsV RX8 96 yX0_isOpen cX0_isOpen 2 (some .boolean) 1 := ⟨q348, q3, q616, q346, q347, by decide +kernel, by decide +kernel, by decide +kernel⟩
theorem s_X8_100 : CsV RX8 100 yX6_hasNumber cX6_hasNumber 2 (some .boolean) 1 := ⟨q620, q11, q617, q618, q619, by decide +kernel, by decide +kernel, by decide +kernel⟩
theorem s_X8_113 : CsV RX8 113 yX1_minutesLeft cX1_minutesLeft 1 (some .int) 0 := ⟨q458, q2, q956, q456, q457, by decide +kernel, by decide +kernel, by decide +kernel⟩
theorem s_X8_120 : CsV RX8 120 yX1_airOfAll cX1_airOfAll 3 (some .int) 0 := ⟨q506, q2, q958, q504, q505, by decide +kernel, by decide +kernel, by decide +kernel⟩
theorem s_J0_335 : CsV RJ0 335 yJ0_coder_7d493 cJ0_coder_7d493 1 (some .byte) 0 := ⟨q679, q16, q676, q677, q678, by decide +kernel, by decide +kernel, by decide +kernel⟩
theorem s_J0_492 : CsV RJ0 492 yJ0_isLatin1_aae02 cJ0_isLatin1_aae02 1 (some .boolean) 0 := ⟨q689, q16, q686, q687, q688, by decide +kernel, by decide +kernel, by decide +kernel⟩
theorem s_J0_495 : CsS RJ0 495 yJ1_charAt_3b067 cJ1_charAt_3b067 2 (some .char) 2 := ⟨q692, q17, q690, q691, by decide +kernel, by decide +kernel, by decide +kernel⟩
theorem s_J0_505 : CsV RJ0 505 yJ0_length_8abf5 cJ0_length_8abf5 1 (some .int) 0 := ⟨q675, q16, q769, q673, q674, by decide +kernel, by decide +kernel, by decide +kernel⟩
theorem s_J0_633 : CsV RJ0 633 yJ0_indexOf_7cf53 cJ0_indexOf_7cf53 3 (some .int) 2 := ⟨q768, q16, q765, q766, q767, by decide +kernel, by decide +kernel, by decide +kernel⟩
theorem s_J0_637 : CsS RJ0 637 yJ1_indexOf_4cfef cJ1_indexOf_4cfef 4 (some .int) 4 := ⟨q772, q17, q770, q771, by decide +kernel, by decide +kernel, by decide +kernel⟩
theorem s_J0_1059 : CsS RJ0 1059 yJ3_checkIndex_8e157 cJ3_checkIndex_8e157 3 (some .int) 3 := ⟨q700, q18, q698, q699, by decide +kernel, by decide +kernel, by decide +kernel⟩
theorem s_J1_9 : CsS RJ1 9 yJ0_checkIndex_df160 cJ0_checkIndex_df160 2 none 2 := ⟨q695, q16, q693, q694, by decide +kernel, by decide +kernel, by decide +kernel⟩
theorem s_J1_88 : CsS RJ1 88 yJ1_canEncode_9a6ad cJ1_canEncode_9a6ad 1 (some .boolean) 1 := ⟨q775, q17, q773, q774, by decide +kernel, by decide +kernel, by decide +kernel⟩
theorem s_J1_95 : CsS RJ1 95 yJ1_indexOfChar_4cfef cJ1_indexOfChar_4cfef 6 (some .int) 4 := ⟨q780, q17, q778, q779, by decide +kernel, by decide +kernel, by decide +kernel⟩

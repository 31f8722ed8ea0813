theorem ix_mv173 : ix_mok ix_m173 := ⟨ix_v173, ix_cT 3 134 rfl, by decide +kernel⟩
theorem ix_mv174 : ix_mok ix_m174 := ⟨ix_v174, ix_cT 3 148 rfl, by decide +kernel⟩
theorem ix_mv175 : ix_mok ix_m175 := ⟨ix_v175, ix_cT 3 144 rfl, by decide +kernel⟩
theorem ix_mv176 : ix_mok ix_m176 := ⟨ix_v176, ix_cT 3 161 rfl, by decide +kernel⟩
theorem ix_mv177 : ix_mok ix_m177 := ⟨ix_v177, ix_cT 3 177 rfl, by decide +kernel⟩
theorem ix_mv178 : ix_mok ix_m178 := ⟨ix_v178, ix_cT 4 180 rfl, by decide +kernel⟩
theorem ix_mv179 : ix_mok ix_m179 := ⟨ix_v179, ix_cT 4 192 rfl, by decide +kernel⟩
theorem ix_mv180 : ix_mok ix_m180 := ⟨ix_v180, ix_cT 4 214 rfl, by decide +kernel⟩
theorem ix_mv181 : ix_mok ix_m181 := ⟨ix_v181, ix_cT 4 206 rfl, by decide +kernel⟩
theorem ix_mv182 : ix_mok ix_m182 := ⟨ix_v182, ix_cT 4 222 rfl, by decide +kernel⟩
theorem ix_mv183 : ix_mok ix_m183 := ⟨ix_v183, ix_cT 4 218 rfl, by decide +kernel⟩
theorem ix_mv184 : ix_mok ix_m184 := ⟨ix_v184, ix_cT 4 238 rfl, by decide +kernel⟩
theorem ix_mv185 : ix_mok ix_m185 := ⟨ix_v185, ix_cT 5 6 rfl, by decide +kernel⟩
theorem ix_mv186 : ix_mok ix_m186 := ⟨ix_v186, ix_cT 5 2 rfl, by decide +kernel⟩
theorem ix_mv187 : ix_mok ix_m187 := ⟨ix_v187, ix_cT 5 75 rfl, by decide +kernel⟩
theorem ix_mv188 : ix_mok ix_m188 := ⟨ix_v188, ix_cT 5 80 rfl, by decide +kernel⟩
theorem ix_mv189 : ix_mok ix_m189 := ⟨ix_v189, ix_cT 5 84 rfl, by decide +kernel⟩
theorem ix_mv190 : ix_mok ix_m190 := ⟨ix_v190, ix_cT 5 127 rfl, by decide +kernel⟩
theorem ix_mv191 : ix_mok ix_m191 := ⟨ix_v191, ix_cT 5 144 rfl, by decide +kernel⟩
theorem ix_mv192 : ix_mok ix_m192 := ⟨ix_v192, ix_cT 5 156 rfl, by decide +kernel⟩
theorem ix_mv193 : ix_mok ix_m193 := ⟨ix_v193, ix_cT 5 175 rfl, by decide +kernel⟩
theorem ix_mv194 : ix_mok ix_m194 := ⟨ix_v194, ix_cT 5 179 rfl, by decide +kernel⟩
theorem ix_mv195 : ix_mok ix_m195 := ⟨ix_v195, ix_cT 5 183 rfl, by decide +kernel⟩
theorem ix_mv196 : ix_mok ix_m196 := ⟨ix_v196, ix_cT 5 191 rfl, by decide +kernel⟩
theorem ix_mv197 : ix_mok ix_m197 := ⟨ix_v197, ix_cT 5 200 rfl, by decide +kernel⟩
theorem ix_mv198 : ix_mok ix_m198 := ⟨ix_v198, ix_cT 5 214 rfl, by decide +kernel⟩
theorem ix_mv199 : ix_mok ix_m199 := ⟨ix_v199, ix_cT 5 209 rfl, by decide +kernel⟩
theorem ix_mv200 : ix_mok ix_m200 := ⟨ix_v200, ix_cT 5 226 rfl, by decide +kernel⟩
theorem ix_mv201 : ix_mok ix_m201 := ⟨ix_v201, ix_cT 5 238 rfl, by decide +kernel⟩
theorem ix_mv202 : ix_mok ix_m202 := ⟨ix_v202, ix_cT 6 11 rfl, by decide +kernel⟩
theorem ix_mv203 : ix_mok ix_m203 := ⟨ix_v203, ix_cT 6 19 rfl, by decide +kernel⟩
theorem ix_mv204 : ix_mok ix_m204 := ⟨ix_v204, ix_cT 6 35 rfl, by decide +kernel⟩
theorem ix_mv205 : ix_mok ix_m205 := ⟨ix_v205, ix_cT 6 56 rfl, by decide +kernel⟩
theorem ix_mv206 : ix_mok ix_m206 := ⟨ix_v206, ix_cT 6 64 rfl, by decide +kernel⟩
theorem ix_mv207 : ix_mok ix_m207 := ⟨ix_v207, ix_cT 6 99 rfl, by decide +kernel⟩
theorem ix_mv208 : ix_mok ix_m208 := ⟨ix_v208, ix_cT 6 112 rfl, by decide +kernel⟩
theorem ix_mv209 : ix_mok ix_m209 := ⟨ix_v209, ix_cT 6 120 rfl, by decide +kernel⟩
theorem ix_mv210 : ix_mok ix_m210 := ⟨ix_v210, ix_cT 6 130 rfl, by decide +kernel⟩
theorem ix_mv211 : ix_mok ix_m211 := ⟨ix_v211, ix_cT 6 140 rfl, by decide +kernel⟩
theorem ix_mv212 : ix_mok ix_m212 := ⟨ix_v212, ix_cT 6 159 rfl, by decide +kernel⟩
theorem ix_mv213 : ix_mok ix_m213 := ⟨ix_v213, ix_cT 6 183 rfl, by decide +kernel⟩
theorem ix_mv214 : ix_mok ix_m214 := ⟨ix_v214, ix_cT 6 196 rfl, by decide +kernel⟩
theorem ix_mv215 : ix_mok ix_m215 := ⟨ix_v215, ix_cT 6 210 rfl, by decide +kernel⟩
theorem ix_mv216 : ix_mok ix_m216 := ⟨ix_v216, ix_cT 6 222 rfl, by decide +kernel⟩
theorem ix_mv217 : ix_mok ix_m217 := ⟨ix_v217, ix_cT 6 234 rfl, by decide +kernel⟩
theorem ix_mv218 : ix_mok ix_m218 := ⟨ix_v218, ix_cT 7 2 rfl, by decide +kernel⟩
theorem ix_mv219 : ix_mok ix_m219 := ⟨ix_v219, ix_cT 7 40 rfl, by decide +kernel⟩
theorem ix_mv220 : ix_mok ix_m220 := ⟨ix_v220, ix_cT 7 52 rfl, by decide +kernel⟩
theorem ix_mv221 : ix_mok ix_m221 := ⟨ix_v221, ix_cT 7 69 rfl, by decide +kernel⟩
theorem ix_mv222 : ix_mok ix_m222 := ⟨ix_v222, ix_cT 7 64 rfl, by decide +kernel⟩
theorem ix_mv223 : ix_mok ix_m223 := ⟨ix_v223, ix_cT 7 73 rfl, by decide +kernel⟩
theorem ix_mv224 : ix_mok ix_m224 := ⟨ix_v224, ix_cT 7 82 rfl, by decide +kernel⟩
theorem ix_mv225 : ix_mok ix_m225 := ⟨ix_v225, ix_cT 7 95 rfl, by decide +kernel⟩
theorem ix_mv226 : ix_mok ix_m226 := ⟨ix_v226, ix_cT 7 110 rfl, by decide +kernel⟩
theorem ix_mv227 : ix_mok ix_m227 := ⟨ix_v227, ix_cT 8 201 rfl, by decide +kernel⟩
theorem ix_mv228 : ix_mok ix_m228 := ⟨ix_v228, ix_cT 8 205 rfl, by decide +kernel⟩
theorem ix_mv229 : ix_mok ix_m229 := ⟨ix_v229, ix_cT 8 209 rfl, by decide +kernel⟩
theorem ix_mv230 : ix_mok ix_m230 := ⟨ix_v230, ix_cT 8 220 rfl, by decide +kernel⟩
theorem ix_mv231 : ix_mok ix_m231 := ⟨ix_v231, ix_cT 9 12 rfl, by decide +kernel⟩
theorem ix_mv232 : ix_mok ix_m232 := ⟨ix_v232, ix_cT 9 16 rfl, by decide +kernel⟩
theorem ix_mv233 : ix_mok ix_m233 := ⟨ix_v233, ix_cT 9 38 rfl, by decide +kernel⟩
theorem ix_mv234 : ix_mok ix_m234 := ⟨ix_v234, ix_cT 8 216 rfl, by decide +kernel⟩
theorem ix_mv235 : ix_mok ix_m235 := ⟨ix_v235, ix_cT 8 231 rfl, by decide +kernel⟩
theorem ix_mv236 : ix_mok ix_m236 := ⟨ix_v236, ix_cT 8 213 rfl, by decide +kernel⟩
theorem ix_mv237 : ix_mok ix_m237 := ⟨ix_v237, ix_cT 8 228 rfl, by decide +kernel⟩
theorem ix_mv238 : ix_mok ix_m238 := ⟨ix_v238, ix_cT 8 224 rfl, by decide +kernel⟩
theorem ix_mv239 : ix_mok ix_m239 := ⟨ix_v239, ix_cT 8 235 rfl, by decide +kernel⟩
theorem ix_mv240 : ix_mok ix_m240 := ⟨ix_v240, ix_cT 8 239 rfl, by decide +kernel⟩
theorem ix_mv241 : ix_mok ix_m241 := ⟨ix_v241, ix_cT 9 4 rfl, by decide +kernel⟩
theorem ix_mv242 : ix_mok ix_m242 := ⟨ix_v242, ix_cT 9 24 rfl, by decide +kernel⟩
theorem ix_mv243 : ix_mok ix_m243 := ⟨ix_v243, ix_cT 9 46 rfl, by decide +kernel⟩
theorem ix_mv244 : ix_mok ix_m244 := ⟨ix_v244, ix_cT 9 27 rfl, by decide +kernel⟩
theorem ix_mv245 : ix_mok ix_m245 := ⟨ix_v245, ix_cT 9 49 rfl, by decide +kernel⟩
theorem ix_mv246 : ix_mok ix_m246 := ⟨ix_v246, ix_cT 9 8 rfl, by decide +kernel⟩
theorem ix_mv247 : ix_mok ix_m247 := ⟨ix_v247, ix_cT 9 20 rfl, by decide +kernel⟩
theorem ix_mv248 : ix_mok ix_m248 := ⟨ix_v248, ix_cT 9 32 rfl, by decide +kernel⟩
theorem ix_mv249 : ix_mok ix_m249 := ⟨ix_v249, ix_cT 9 42 rfl, by decide +kernel⟩
theorem ix_mv250 : ix_mok ix_m250 := ⟨ix_v250, ix_cT 9 223 rfl, by decide +kernel⟩
theorem ix_mv251 : ix_mok ix_m251 := ⟨ix_v251, ix_cT 9 57 rfl, by decide +kernel⟩
theorem ix_mv252 : ix_mok ix_m252 := ⟨ix_v252, ix_cT 9 53 rfl, by decide +kernel⟩
theorem ix_mv253 : ix_mok ix_m253 := ⟨ix_v253, ix_cT 9 69 rfl, by decide +kernel⟩
theorem ix_mv254 : ix_mok ix_m254 := ⟨ix_v254, ix_cT 9 72 rfl, by decide +kernel⟩
theorem ix_mv255 : ix_mok ix_m255 := ⟨ix_v255, ix_cT 9 75 rfl, by decide +kernel⟩
theorem ix_mv256 : ix_mok ix_m256 := ⟨ix_v256, ix_cT 9 65 rfl, by decide +kernel⟩
theorem ix_mv257 : ix_mok ix_m257 := ⟨ix_v257, ix_cT 9 103 rfl, by decide +kernel⟩
theorem ix_mv258 : ix_mok ix_m258 := ⟨ix_v258, ix_cT 9 88 rfl, by decide +kernel⟩
theorem ix_mv259 : ix_mok ix_m259 := ⟨ix_v259, ix_cT 9 107 rfl, by decide +kernel⟩
theorem ix_mv260 : ix_mok ix_m260 := ⟨ix_v260, ix_cT 9 95 rfl, by decide +kernel⟩
theorem ix_mv261 : ix_mok ix_m261 := ⟨ix_v261, ix_cT 9 99 rfl, by decide +kernel⟩
theorem ix_mv262 : ix_mok ix_m262 := ⟨ix_v262, ix_cT 9 132 rfl, by decide +kernel⟩
theorem ix_mv263 : ix_mok ix_m263 := ⟨ix_v263, ix_cT 9 128 rfl, by decide +kernel⟩
theorem ix_mv264 : ix_mok ix_m264 := ⟨ix_v264, ix_cT 9 124 rfl, by decide +kernel⟩
theorem ix_mv265 : ix_mok ix_m265 := ⟨ix_v265, ix_cT 9 111 rfl, by decide +kernel⟩
theorem ix_mv266 : ix_mok ix_m266 := ⟨ix_v266, ix_cT 9 120 rfl, by decide +kernel⟩
theorem ix_mv267 : ix_mok ix_m267 := ⟨ix_v267, ix_cT 9 116 rfl, by decide +kernel⟩
theorem ix_mv268 : ix_mok ix_m268 := ⟨ix_v268, ix_cT 9 83 rfl, by decide +kernel⟩
theorem ix_mv269 : ix_mok ix_m269 := ⟨ix_v269, ix_cT 9 61 rfl, by decide +kernel⟩
theorem ix_mv270 : ix_mok ix_m270 := ⟨ix_v270, ix_cT 9 137 rfl, by decide +kernel⟩
theorem ix_mv271 : ix_mok ix_m271 := ⟨ix_v271, ix_cT 9 145 rfl, by decide +kernel⟩
theorem ix_mv272 : ix_mok ix_m272 := ⟨ix_v272, ix_cT 9 141 rfl, by decide +kernel⟩
theorem ix_mv273 : ix_mok ix_m273 := ⟨ix_v273, ix_cT 9 153 rfl, by decide +kernel⟩
theorem ix_mv274 : ix_mok ix_m274 := ⟨ix_v274, ix_cT 9 149 rfl, by decide +kernel⟩
theorem ix_mv275 : ix_mok ix_m275 := ⟨ix_v275, ix_cT 9 161 rfl, by decide +kernel⟩
theorem ix_mv276 : ix_mok ix_m276 := ⟨ix_v276, ix_cT 9 165 rfl, by decide +kernel⟩
theorem ix_mv277 : ix_mok ix_m277 := ⟨ix_v277, ix_cT 9 157 rfl, by decide +kernel⟩
theorem ix_mv278 : ix_mok ix_m278 := ⟨ix_v278, ix_cT 9 169 rfl, by decide +kernel⟩
theorem ix_mv279 : ix_mok ix_m279 := ⟨ix_v279, ix_cT 9 186 rfl, by decide +kernel⟩
theorem ix_mv280 : ix_mok ix_m280 := ⟨ix_v280, ix_cT 9 198 rfl, by decide +kernel⟩
theorem ix_mv281 : ix_mok ix_m281 := ⟨ix_v281, ix_cT 9 194 rfl, by decide +kernel⟩
theorem ix_mv282 : ix_mok ix_m282 := ⟨ix_v282, ix_cT 9 190 rfl, by decide +kernel⟩
theorem ix_mv283 : ix_mok ix_m283 := ⟨ix_v283, ix_cT 9 182 rfl, by decide +kernel⟩
theorem ix_mv284 : ix_mok ix_m284 := ⟨ix_v284, ix_cT 9 177 rfl, by decide +kernel⟩
theorem ix_mv285 : ix_mok ix_m285 := ⟨ix_v285, ix_cT 9 173 rfl, by decide +kernel⟩
theorem ix_mv286 : ix_mok ix_m286 := ⟨ix_v286, ix_cT 9 203 rfl, by decide +kernel⟩
theorem ix_mv287 : ix_mok ix_m287 := ⟨ix_v287, ix_cT 9 207 rfl, by decide +kernel⟩
theorem ix_mv288 : ix_mok ix_m288 := ⟨ix_v288, ix_cT 9 227 rfl, by decide +kernel⟩
theorem ix_mv289 : ix_mok ix_m289 := ⟨ix_v289, ix_cT 9 231 rfl, by decide +kernel⟩
theorem ix_mv290 : ix_mok ix_m290 := ⟨ix_v290, ix_cT 9 219 rfl, by decide +kernel⟩
theorem ix_mv291 : ix_mok ix_m291 := ⟨ix_v291, ix_cT 9 215 rfl, by decide +kernel⟩
theorem ix_mv292 : ix_mok ix_m292 := ⟨ix_v292, ix_cT 9 211 rfl, by decide +kernel⟩
theorem ix_mv293 : ix_mok ix_m293 := ⟨ix_v293, ix_cT 9 235 rfl, by decide +kernel⟩
theorem ix_mv294 : ix_mok ix_m294 := ⟨ix_v294, ix_cT 10 3 rfl, by decide +kernel⟩
theorem ix_mv295 : ix_mok ix_m295 := ⟨ix_v295, ix_cT 9 239 rfl, by decide +kernel⟩
theorem ix_mv296 : ix_mok ix_m296 := ⟨ix_v296, ix_cT 10 11 rfl, by decide +kernel⟩
theorem ix_mv297 : ix_mok ix_m297 := ⟨ix_v297, ix_cT 10 7 rfl, by decide +kernel⟩
theorem ix_mv298 : ix_mok ix_m298 := ⟨ix_v298, ix_cT 10 15 rfl, by decide +kernel⟩
theorem ix_mv299 : ix_mok ix_m299 := ⟨ix_v299, ix_cT 10 19 rfl, by decide +kernel⟩
theorem ix_mv300 : ix_mok ix_m300 := ⟨ix_v300, ix_cT 10 23 rfl, by decide +kernel⟩
theorem ix_mv301 : ix_mok ix_m301 := ⟨ix_v301, ix_cT 10 31 rfl, by decide +kernel⟩
theorem ix_mv302 : ix_mok ix_m302 := ⟨ix_v302, ix_cT 10 27 rfl, by decide +kernel⟩
theorem ix_mv303 : ix_mok ix_m303 := ⟨ix_v303, ix_cT 10 36 rfl, by decide +kernel⟩
theorem ix_mv304 : ix_mok ix_m304 := ⟨ix_v304, ix_cT 10 49 rfl, by decide +kernel⟩
theorem ix_mv305 : ix_mok ix_m305 := ⟨ix_v305, ix_cT 10 40 rfl, by decide +kernel⟩
theorem ix_mv306 : ix_mok ix_m306 := ⟨ix_v306, ix_cT 10 53 rfl, by decide +kernel⟩
theorem ix_mv307 : ix_mok ix_m307 := ⟨ix_v307, ix_cT 10 45 rfl, by decide +kernel⟩
theorem ix_mv308 : ix_mok ix_m308 := ⟨ix_v308, ix_cT 10 57 rfl, by decide +kernel⟩
theorem ix_mv309 : ix_mok ix_m309 := ⟨ix_v309, ix_cT 10 65 rfl, by decide +kernel⟩
theorem ix_mv310 : ix_mok ix_m310 := ⟨ix_v310, ix_cT 10 73 rfl, by decide +kernel⟩
theorem ix_mv311 : ix_mok ix_m311 := ⟨ix_v311, ix_cT 10 69 rfl, by decide +kernel⟩
theorem ix_mv312 : ix_mok ix_m312 := ⟨ix_v312, ix_cT 10 81 rfl, by decide +kernel⟩
theorem ix_mv313 : ix_mok ix_m313 := ⟨ix_v313, ix_cT 10 77 rfl, by decide +kernel⟩
theorem ix_mv314 : ix_mok ix_m314 := ⟨ix_v314, ix_cT 10 86 rfl, by decide +kernel⟩
theorem ix_mv315 : ix_mok ix_m315 := ⟨ix_v315, ix_cT 10 90 rfl, by decide +kernel⟩
theorem ix_mv316 : ix_mok ix_m316 := ⟨ix_v316, ix_cT 10 94 rfl, by decide +kernel⟩
theorem ix_mv317 : ix_mok ix_m317 := ⟨ix_v317, ix_cT 10 102 rfl, by decide +kernel⟩
theorem ix_mv318 : ix_mok ix_m318 := ⟨ix_v318, ix_cT 10 98 rfl, by decide +kernel⟩
theorem ix_mv319 : ix_mok ix_m319 := ⟨ix_v319, ix_cT 10 106 rfl, by decide +kernel⟩
theorem ix_mv320 : ix_mok ix_m320 := ⟨ix_v320, ix_cT 10 110 rfl, by decide +kernel⟩
theorem ix_mv321 : ix_mok ix_m321 := ⟨ix_v321, ix_cT 10 115 rfl, by decide +kernel⟩
theorem ix_mv322 : ix_mok ix_m322 := ⟨ix_v322, ix_cT 10 123 rfl, by decide +kernel⟩
theorem ix_mv323 : ix_mok ix_m323 := ⟨ix_v323, ix_cT 10 119 rfl, by decide +kernel⟩
theorem ix_mv324 : ix_mok ix_m324 := ⟨ix_v324, ix_cT 10 131 rfl, by decide +kernel⟩
theorem ix_mv325 : ix_mok ix_m325 := ⟨ix_v325, ix_cT 10 127 rfl, by decide +kernel⟩
theorem ix_mv326 : ix_mok ix_m326 := ⟨ix_v326, ix_cT 10 139 rfl, by decide +kernel⟩
theorem ix_mv327 : ix_mok ix_m327 := ⟨ix_v327, ix_cT 10 135 rfl, by decide +kernel⟩
theorem ix_mv328 : ix_mok ix_m328 := ⟨ix_v328, ix_cT 10 143 rfl, by decide +kernel⟩
theorem ix_mv329 : ix_mok ix_m329 := ⟨ix_v329, ix_cT 10 147 rfl, by decide +kernel⟩
theorem ix_mv330 : ix_mok ix_m330 := ⟨ix_v330, ix_cT 10 151 rfl, by decide +kernel⟩
theorem ix_mv331 : ix_mok ix_m331 := ⟨ix_v331, ix_cT 10 163 rfl, by decide +kernel⟩
theorem ix_mv332 : ix_mok ix_m332 := ⟨ix_v332, ix_cT 10 159 rfl, by decide +kernel⟩
theorem ix_mv333 : ix_mok ix_m333 := ⟨ix_v333, ix_cT 10 171 rfl, by decide +kernel⟩
theorem ix_mv334 : ix_mok ix_m334 := ⟨ix_v334, ix_cT 10 155 rfl, by decide +kernel⟩
theorem ix_mv335 : ix_mok ix_m335 := ⟨ix_v335, ix_cT 10 167 rfl, by decide +kernel⟩
theorem ix_mv336 : ix_mok ix_m336 := ⟨ix_v336, ix_cT 10 175 rfl, by decide +kernel⟩
theorem ix_mv337 : ix_mok ix_m337 := ⟨ix_v337, ix_cT 10 179 rfl, by decide +kernel⟩
theorem ix_mv338 : ix_mok ix_m338 := ⟨ix_v338, ix_cT 10 184 rfl, by decide +kernel⟩
theorem ix_mv339 : ix_mok ix_m339 := ⟨ix_v339, ix_cT 10 188 rfl, by decide +kernel⟩
theorem ix_mv340 : ix_mok ix_m340 := ⟨ix_v340, ix_cT 10 193 rfl, by decide +kernel⟩
theorem ix_mv341 : ix_mok ix_m341 := ⟨ix_v341, ix_cT 6 48 rfl, by decide +kernel⟩
theorem ix_mv342 : ix_mok ix_m342 := ⟨ix_v342, ix_cT 4 46 rfl, by decide +kernel⟩
theorem ix_mv343 : ix_mok ix_m343 := ⟨ix_v343, ix_cT 5 68 rfl, by decide +kernel⟩
theorem ix_mv344 : ix_mok ix_m344 := ⟨ix_v344, ix_cT 1 46 rfl, by decide +kernel⟩
theorem ix_mv345 : ix_mok ix_m345 := ⟨ix_v345, ix_cT 5 65 rfl, by decide +kernel⟩
theorem ix_mv346 : ix_mok ix_m346 := ⟨ix_v346, ix_cT 3 216 rfl, by decide +kernel⟩
theorem ix_mv347 : ix_mok ix_m347 := ⟨ix_v347, ix_cT 3 220 rfl, by decide +kernel⟩
theorem ix_mv348 : ix_mok ix_m348 := ⟨ix_v348, ix_cT 3 225 rfl, by decide +kernel⟩
theorem ix_mv349 : ix_mok ix_m349 := ⟨ix_v349, ix_cT 4 25 rfl, by decide +kernel⟩
theorem ix_mv350 : ix_mok ix_m350 := ⟨ix_v350, ix_cT 4 29 rfl, by decide +kernel⟩
theorem ix_mv351 : ix_mok ix_m351 := ⟨ix_v351, ix_cT 4 33 rfl, by decide +kernel⟩
theorem ix_mv352 : ix_mok ix_m352 := ⟨ix_v352, ix_cT 4 37 rfl, by decide +kernel⟩
theorem ix_mv353 : ix_mok ix_m353 := ⟨ix_v353, ix_cT 4 40 rfl, by decide +kernel⟩
theorem ix_mv354 : ix_mok ix_m354 := ⟨ix_v354, ix_cT 4 43 rfl, by decide +kernel⟩
theorem ix_mv355 : ix_mok ix_m355 := ⟨ix_v355, ix_cT 4 50 rfl, by decide +kernel⟩
theorem ix_mmv0 : ∀ q ∈ ix_mm0, ix_mok q := List.forall_mem_cons.mpr ⟨ix_mv0, List.forall_mem_cons.mpr ⟨ix_mv1, List.forall_mem_cons.mpr ⟨ix_mv2, List.forall_mem_cons.mpr ⟨ix_mv3, List.forall_mem_cons.mpr ⟨ix_mv4, List.forall_mem_cons.mpr ⟨ix_mv5, List.forall_mem_cons.mpr ⟨ix_mv6, List.forall_mem_cons.mpr ⟨ix_mv7, List.forall_mem_cons.mpr ⟨ix_mv8, List.forall_mem_cons.mpr ⟨ix_mv9, List.forall_mem_cons.mpr ⟨ix_mv10, List.forall_mem_cons.mpr ⟨ix_mv11, List.forall_mem_cons.mpr ⟨ix_mv12, List.forall_mem_cons.mpr ⟨ix_mv13, List.forall_mem_cons.mpr ⟨ix_mv14, List.forall_mem_cons.mpr ⟨ix_mv15, List.forall_mem_cons.mpr ⟨ix_mv16, List.forall_mem_cons.mpr ⟨ix_mv17, List.forall_mem_cons.mpr ⟨ix_mv18, List.forall_mem_cons.mpr ⟨ix_mv19, fun _ h => absurd h List.not_mem_nil⟩⟩⟩⟩⟩⟩⟩⟩⟩⟩⟩⟩⟩⟩⟩⟩⟩⟩⟩⟩
theorem ix_mmv1 : ∀ q ∈ ix_mm1, ix_mok q := List.forall_mem_cons.mpr ⟨ix_mv20, List.forall_mem_cons.mpr ⟨ix_mv21, List.forall_mem_cons.mpr ⟨ix_mv22, List.forall_mem_cons.mpr ⟨ix_mv23, List.forall_mem_cons.mpr ⟨ix_mv24, List.forall_mem_cons.mpr ⟨ix_mv25, List.forall_mem_cons.mpr ⟨ix_mv26, List.forall_mem_cons.mpr ⟨ix_mv27, List.forall_mem_cons.mpr ⟨ix_mv28, List.forall_mem_cons.mpr ⟨ix_mv29, List.forall_mem_cons.mpr ⟨ix_mv30, List.forall_mem_cons.mpr ⟨ix_mv31, List.forall_mem_cons.mpr ⟨ix_mv32, List.forall_mem_cons.mpr ⟨ix_mv33, List.forall_mem_cons.mpr ⟨ix_mv34, List.forall_mem_cons.mpr ⟨ix_mv35, List.forall_mem_cons.mpr ⟨ix_mv36, List.forall_mem_cons.mpr ⟨ix_mv37, List.forall_mem_cons.mpr ⟨ix_mv38, List.forall_mem_cons.mpr ⟨ix_mv39, fun _ h => absurd h List.not_mem_nil⟩⟩⟩⟩⟩⟩⟩⟩⟩⟩⟩⟩⟩⟩⟩⟩⟩⟩⟩⟩
theorem ix_mmv2 : ∀ q ∈ ix_mm2, ix_mok q := List.forall_mem_cons.mpr ⟨ix_mv40, List.forall_mem_cons.mpr ⟨ix_mv41, List.forall_mem_cons.mpr ⟨ix_mv42, List.forall_mem_cons.mpr ⟨ix_mv43, List.forall_mem_cons.mpr ⟨ix_mv44, List.forall_mem_cons.mpr ⟨ix_mv45, List.forall_mem_cons.mpr ⟨ix_mv46, List.forall_mem_cons.mpr ⟨ix_mv47, List.forall_mem_cons.mpr ⟨ix_mv48, List.forall_mem_cons.mpr ⟨ix_mv49, List.forall_mem_cons.mpr ⟨ix_mv50, List.forall_mem_cons.mpr ⟨ix_mv51, List.forall_mem_cons.mpr ⟨ix_mv52, List.forall_mem_cons.mpr ⟨ix_mv53, List.forall_mem_cons.mpr ⟨ix_mv54, List.forall_mem_cons.mpr ⟨ix_mv55, List.forall_mem_cons.mpr ⟨ix_mv56, List.forall_mem_cons.mpr ⟨ix_mv57, List.forall_mem_cons.mpr ⟨ix_mv58, List.forall_mem_cons.mpr ⟨ix_mv59, fun _ h => absurd h List.not_mem_nil⟩⟩⟩⟩⟩⟩⟩⟩⟩⟩⟩⟩⟩⟩⟩⟩⟩⟩⟩⟩
theorem ix_mmv3 : ∀ q ∈ ix_mm3, ix_mok q := List.forall_mem_cons.mpr ⟨ix_mv60, List.forall_mem_cons.mpr ⟨ix_mv61, List.forall_mem_cons.mpr ⟨ix_mv62, List.forall_mem_cons.mpr ⟨ix_mv63, List.forall_mem_cons.mpr ⟨ix_mv64, List.forall_mem_cons.mpr ⟨ix_mv65, List.forall_mem_cons.mpr ⟨ix_mv66, List.forall_mem_cons.mpr ⟨ix_mv67, List.forall_mem_cons.mpr ⟨ix_mv68, List.forall_mem_cons.mpr ⟨ix_mv69, List.forall_mem_cons.mpr ⟨ix_mv70, List.forall_mem_cons.mpr ⟨ix_mv71, List.forall_mem_cons.mpr ⟨ix_mv72, List.forall_mem_cons.mpr ⟨ix_mv73, List.forall_mem_cons.mpr ⟨ix_mv74, List.forall_mem_cons.mpr ⟨ix_mv75, List.forall_mem_cons.mpr ⟨ix_mv76, List.forall_mem_cons.mpr ⟨ix_mv77, List.forall_mem_cons.mpr ⟨ix_mv78, List.forall_mem_cons.mpr ⟨ix_mv79, fun _ h => absurd h List.not_mem_nil⟩⟩⟩⟩⟩⟩⟩⟩⟩⟩⟩⟩⟩⟩⟩⟩⟩⟩⟩⟩
theorem ix_mmv4 : ∀ q ∈ ix_mm4, ix_mok q := List.forall_mem_cons.mpr ⟨ix_mv80, List.forall_mem_cons.mpr ⟨ix_mv81, List.forall_mem_cons.mpr ⟨ix_mv82, List.forall_mem_cons.mpr ⟨ix_mv83, List.forall_mem_cons.mpr ⟨ix_mv84, List.forall_mem_cons.mpr ⟨ix_mv85, List.forall_mem_cons.mpr ⟨ix_mv86, List.forall_mem_cons.mpr ⟨ix_mv87, List.forall_mem_cons.mpr ⟨ix_mv88, List.forall_mem_cons.mpr ⟨ix_mv89, List.forall_mem_cons.mpr ⟨ix_mv90, List.forall_mem_cons.mpr ⟨ix_mv91, List.forall_mem_cons.mpr ⟨ix_mv92, List.forall_mem_cons.mpr ⟨ix_mv93, List.forall_mem_cons.mpr ⟨ix_mv94, List.forall_mem_cons.mpr ⟨ix_mv95, List.forall_mem_cons.mpr ⟨ix_mv96, List.forall_mem_cons.mpr ⟨ix_mv97, List.forall_mem_cons.mpr ⟨ix_mv98, List.forall_mem_cons.mpr ⟨ix_mv99, fun _ h => absurd h List.not_mem_nil⟩⟩⟩⟩⟩⟩⟩⟩⟩⟩⟩⟩⟩⟩⟩⟩⟩⟩⟩⟩
theorem ix_mmv5 : ∀ q ∈ ix_mm5, ix_mok q := List.forall_mem_cons.mpr ⟨ix_mv100, List.forall_mem_cons.mpr ⟨ix_mv101, List.forall_mem_cons.mpr ⟨ix_mv102, List.forall_mem_cons.mpr ⟨ix_mv103, List.forall_mem_cons.mpr ⟨ix_mv104, List.forall_mem_cons.mpr ⟨ix_mv105, List.forall_mem_cons.mpr ⟨ix_mv106, List.forall_mem_cons.mpr ⟨ix_mv107, List.forall_mem_cons.mpr ⟨ix_mv108, List.forall_mem_cons.mpr ⟨ix_mv109, List.forall_mem_cons.mpr ⟨ix_mv110, List.forall_mem_cons.mpr ⟨ix_mv111, List.forall_mem_cons.mpr ⟨ix_mv112, List.forall_mem_cons.mpr ⟨ix_mv113, List.forall_mem_cons.mpr ⟨ix_mv114, List.forall_mem_cons.mpr ⟨ix_mv115, List.forall_mem_cons.mpr ⟨ix_mv116, List.forall_mem_cons.mpr ⟨ix_mv117, List.forall_mem_cons.mpr ⟨ix_mv118, List.forall_mem_cons.mpr ⟨ix_mv119, fun _ h => absurd h List.not_mem_nil⟩⟩⟩⟩⟩⟩⟩⟩⟩⟩⟩⟩⟩⟩⟩⟩⟩⟩⟩⟩
theorem ix_mmv6 : ∀ q ∈ ix_mm6, ix_mok q := List.forall_mem_cons.mpr ⟨ix_mv120, List.forall_mem_cons.mpr ⟨ix_mv121, List.forall_mem_cons.mpr ⟨ix_mv122, List.forall_mem_cons.mpr ⟨ix_mv123, List.forall_mem_cons.mpr ⟨ix_mv124, List.forall_mem_cons.mpr ⟨ix_mv125, List.forall_mem_cons.mpr ⟨ix_mv126, List.forall_mem_cons.mpr ⟨ix_mv127, List.forall_mem_cons.mpr ⟨ix_mv128, List.forall_mem_cons.mpr ⟨ix_mv129, List.forall_mem_cons.mpr ⟨ix_mv130, List.forall_mem_cons.mpr ⟨ix_mv131, List.forall_mem_cons.mpr ⟨ix_mv132, List.forall_mem_cons.mpr ⟨ix_mv133, List.forall_mem_cons.mpr ⟨ix_mv134, List.forall_mem_cons.mpr ⟨ix_mv135, List.forall_mem_cons.mpr ⟨ix_mv136, List.forall_mem_cons.mpr ⟨ix_mv137, List.forall_mem_cons.mpr ⟨ix_mv138, List.forall_mem_cons.mpr ⟨ix_mv139, fun _ h => absurd h List.not_mem_nil⟩⟩⟩⟩⟩⟩⟩⟩⟩⟩⟩⟩⟩⟩⟩⟩⟩⟩⟩⟩
theorem ix_mmv7 : ∀ q ∈ ix_mm7, ix_mok q := List.forall_mem_cons.mpr ⟨ix_mv140, List.forall_mem_cons.mpr ⟨ix_mv141, List.forall_mem_cons.mpr ⟨ix_mv142, List.forall_mem_cons.mpr ⟨ix_mv143, List.forall_mem_cons.mpr ⟨ix_mv144, List.forall_mem_cons.mpr ⟨ix_mv145, List.forall_mem_cons.mpr ⟨ix_mv146, List.forall_mem_cons.mpr ⟨ix_mv147, List.forall_mem_cons.mpr ⟨ix_mv148, List.forall_mem_cons.mpr ⟨ix_mv149, List.forall_mem_cons.mpr ⟨ix_mv150, List.forall_mem_cons.mpr ⟨ix_mv151, List.forall_mem_cons.mpr ⟨ix_mv152, List.forall_mem_cons.mpr ⟨ix_mv153, List.forall_mem_cons.mpr ⟨ix_mv154, List.forall_mem_cons.mpr ⟨ix_mv155, List.forall_mem_cons.mpr ⟨ix_mv156, List.forall_mem_cons.mpr ⟨ix_mv157, List.forall_mem_cons.mpr ⟨ix_mv158, List.forall_mem_cons.mpr ⟨ix_mv159, fun _ h => absurd h List.not_mem_nil⟩⟩⟩⟩⟩⟩⟩⟩⟩⟩⟩⟩⟩⟩⟩⟩⟩⟩⟩⟩
theorem ix_mmv8 : ∀ q ∈ ix_mm8, ix_mok q := List.forall_mem_cons.mpr ⟨ix_mv160, List.forall_mem_cons.mpr ⟨ix_mv161, List.forall_mem_cons.mpr ⟨ix_mv162, List.forall_mem_cons.mpr ⟨ix_mv163, List.forall_mem_cons.mpr ⟨ix_mv164, List.forall_mem_cons.mpr ⟨ix_mv165, List.forall_mem_cons.mpr ⟨ix_mv166, List.forall_mem_cons.mpr ⟨ix_mv167, List.forall_mem_cons.mpr ⟨ix_mv168, List.forall_mem_cons.mpr ⟨ix_mv169, List.forall_mem_cons.mpr ⟨ix_mv170, List.forall_mem_cons.mpr ⟨ix_mv171, List.forall_mem_cons.mpr ⟨ix_mv172, List.forall_mem_cons.mpr ⟨ix_mv173, List.forall_mem_cons.mpr ⟨ix_mv174, List.forall_mem_cons.mpr ⟨ix_mv175, List.forall_mem_cons.mpr ⟨ix_mv176, List.forall_mem_cons.mpr ⟨ix_mv177, List.forall_mem_cons.mpr ⟨ix_mv178, List.forall_mem_cons.mpr ⟨ix_mv179, fun _ h => absurd h List.not_mem_nil⟩⟩⟩⟩⟩⟩⟩⟩⟩⟩⟩⟩⟩⟩⟩⟩⟩⟩⟩⟩
theorem ix_mmv9 : ∀ q ∈ ix_mm9, ix_mok q := List.forall_mem_cons.mpr ⟨ix_mv180, List.forall_mem_cons.mpr ⟨ix_mv181, List.forall_mem_cons.mpr ⟨ix_mv182, List.forall_mem_cons.mpr ⟨ix_mv183, List.forall_mem_cons.mpr ⟨ix_mv184, List.forall_mem_cons.mpr ⟨ix_mv185, List.forall_mem_cons.mpr ⟨ix_mv186, List.forall_mem_cons.mpr ⟨ix_mv187, List.forall_mem_cons.mpr ⟨ix_mv188, List.forall_mem_cons.mpr ⟨ix_mv189, List.forall_mem_cons.mpr ⟨ix_mv190, List.forall_mem_cons.mpr ⟨ix_mv191, List.forall_mem_cons.mpr ⟨ix_mv192, List.forall_mem_cons.mpr ⟨ix_mv193, List.forall_mem_cons.mpr ⟨ix_mv194, List.forall_mem_cons.mpr ⟨ix_mv195, List.forall_mem_cons.mpr ⟨ix_mv196, List.forall_mem_cons.mpr ⟨ix_mv197, List.forall_mem_cons.mpr ⟨ix_mv198, List.forall_mem_cons.mpr ⟨ix_mv199, fun _ h => absurd h List.not_mem_nil⟩⟩⟩⟩⟩⟩⟩⟩⟩⟩⟩⟩⟩⟩⟩⟩⟩⟩⟩⟩
theorem ix_mmv10 : ∀ q ∈ ix_mm10, ix_mok q := List.forall_mem_cons.mpr ⟨ix_mv200, List.forall_mem_cons.mpr ⟨ix_mv201, List.forall_mem_cons.mpr ⟨ix_mv202, List.forall_mem_cons.mpr ⟨ix_mv203, List.forall_mem_cons.mpr ⟨ix_mv204, List.forall_mem_cons.mpr ⟨ix_mv205, List.forall_mem_cons.mpr ⟨ix_mv206, List.forall_mem_cons.mpr ⟨ix_mv207, List.forall_mem_cons.mpr ⟨ix_mv208, List.forall_mem_cons.mpr ⟨ix_mv209, List.forall_mem_cons.mpr ⟨ix_mv210, List.forall_mem_cons.mpr ⟨ix_mv211, List.forall_mem_cons.mpr ⟨ix_mv212, List.forall_mem_cons.mpr ⟨ix_mv213, List.forall_mem_cons.mpr ⟨ix_mv214, List.forall_mem_cons.mpr ⟨ix_mv215, List.forall_mem_cons.mpr ⟨ix_mv216, List.forall_mem_cons.mpr ⟨ix_mv217, List.forall_mem_cons.mpr ⟨ix_mv218, List.forall_mem_cons.mpr ⟨ix_mv219, fun _ h => absurd h List.not_mem_nil⟩⟩⟩⟩⟩⟩⟩⟩⟩⟩⟩⟩⟩⟩⟩⟩⟩⟩⟩⟩
theorem ix_mmv11 : ∀ q ∈ ix_mm11, ix_mok q := List.forall_mem_cons.mpr ⟨ix_mv220, List.forall_mem_cons.mpr ⟨ix_mv221, List.forall_mem_cons.mpr ⟨ix_mv222, List.forall_mem_cons.mpr ⟨ix_mv223, List.forall_mem_cons.mpr ⟨ix_mv224, List.forall_mem_cons.mpr ⟨ix_mv225, List.forall_mem_cons.mpr ⟨ix_mv226, List.forall_mem_cons.mpr ⟨ix_mv227, List.forall_mem_cons.mpr ⟨ix_mv228, List.forall_mem_cons.mpr ⟨ix_mv229, List.forall_mem_cons.mpr ⟨ix_mv230, List.forall_mem_cons.mpr ⟨ix_mv231, List.forall_mem_cons.mpr ⟨ix_mv232, List.forall_mem_cons.mpr ⟨ix_mv233, List.forall_mem_cons.mpr ⟨ix_mv234, List.forall_mem_cons.mpr ⟨ix_mv235, List.forall_mem_cons.mpr ⟨ix_mv236, List.forall_mem_cons.mpr ⟨ix_mv237, List.forall_mem_cons.mpr ⟨ix_mv238, List.forall_mem_cons.mpr ⟨ix_mv239, fun _ h => absurd h List.not_mem_nil⟩⟩⟩⟩⟩⟩⟩⟩⟩⟩⟩⟩⟩⟩⟩⟩⟩⟩⟩⟩
theorem ix_mmv12 : ∀ q ∈ ix_mm12, ix_mok q := List.forall_mem_cons.mpr ⟨ix_mv240, List.forall_mem_cons.mpr ⟨ix_mv241, List.forall_mem_cons.mpr ⟨ix_mv242, List.forall_mem_cons.mpr ⟨ix_mv243, List.forall_mem_cons.mpr ⟨ix_mv244, List.forall_mem_cons.mpr ⟨ix_mv245, List.forall_mem_cons.mpr ⟨ix_mv246, List.forall_mem_cons.mpr ⟨ix_mv247, List.forall_mem_cons.mpr ⟨ix_mv248, List.forall_mem_cons.mpr ⟨ix_mv249, List.forall_mem_cons.mpr ⟨ix_mv250, List.forall_mem_cons.mpr ⟨ix_mv251, List.forall_mem_cons.mpr ⟨ix_mv252, List.forall_mem_cons.mpr ⟨ix_mv253, List.forall_mem_cons.mpr ⟨ix_mv254, List.forall_mem_cons.mpr ⟨ix_mv255, List.forall_mem_cons.mpr ⟨ix_mv256, List.forall_mem_cons.mpr ⟨ix_mv257, List.forall_mem_cons.mpr ⟨ix_mv258, List.forall_mem_cons.mpr ⟨ix_mv259, fun _ h => absurd h List.not_mem_nil⟩⟩⟩⟩⟩⟩⟩⟩⟩⟩⟩⟩⟩⟩⟩⟩⟩⟩⟩⟩
theorem ix_mmv13 : ∀ q ∈ ix_mm13, ix_mok q := List.forall_mem_cons.mpr ⟨ix_mv260, List.forall_mem_cons.mpr ⟨ix_mv261, List.forall_mem_cons.mpr ⟨ix_mv262, List.forall_mem_cons.mpr ⟨ix_mv263, List.forall_mem_cons.mpr ⟨ix_mv264, List.forall_mem_cons.mpr ⟨ix_mv265, List.forall_mem_cons.mpr ⟨ix_mv266, List.forall_mem_cons.mpr ⟨ix_mv267, List.forall_mem_cons.mpr ⟨ix_mv268, List.forall_mem_cons.mpr ⟨ix_mv269, List.forall_mem_cons.mpr ⟨ix_mv270, List.forall_mem_cons.mpr ⟨ix_mv271, List.forall_mem_cons.mpr ⟨ix_mv272, List.forall_mem_cons.mpr ⟨ix_mv273, List.forall_mem_cons.mpr ⟨ix_mv274, List.forall_mem_cons.mpr ⟨ix_mv275, List.forall_mem_cons.mpr ⟨ix_mv276, List.forall_mem_cons.mpr ⟨ix_mv277, List.forall_mem_cons.mpr ⟨ix_mv278, List.forall_mem_cons.mpr ⟨ix_mv279, fun _ h => absurd h List.not_mem_nil⟩⟩⟩⟩⟩⟩⟩⟩⟩⟩⟩⟩⟩⟩⟩⟩⟩⟩⟩⟩
theorem ix_mmv14 : ∀ q ∈ ix_mm14, ix_mok q := List.forall_mem_cons.mpr ⟨ix_mv280, List.forall_mem_cons.mpr ⟨ix_mv281, List.forall_mem_cons.mpr ⟨ix_mv282, List.forall_mem_cons.mpr ⟨ix_mv283, List.forall_mem_cons.mpr ⟨ix_mv284, List.forall_mem_cons.mpr ⟨ix_mv285, List.forall_mem_cons.mpr ⟨ix_mv286, List.forall_mem_cons.mpr ⟨ix_mv287, List.forall_mem_cons.mpr ⟨ix_mv288, List.forall_mem_cons.mpr ⟨ix_mv289, List.forall_mem_cons.mpr ⟨ix_mv290, List.forall_mem_cons.mpr ⟨ix_mv291, List.forall_mem_cons.mpr ⟨ix_mv292, List.forall_mem_cons.mpr ⟨ix_mv293, List.forall_mem_cons.mpr ⟨ix_mv294, List.forall_mem_cons.mpr ⟨ix_mv295, List.forall_mem_cons.mpr ⟨ix_mv296, List.forall_mem_cons.mpr ⟨ix_mv297, List.forall_mem_cons.mpr ⟨ix_mv298, List.forall_mem_cons.mpr ⟨ix_mv299, fun _ h => absurd h List.not_mem_nil⟩⟩⟩⟩⟩⟩⟩⟩⟩⟩⟩⟩⟩⟩⟩⟩⟩⟩⟩⟩
theorem ix_mmv15 : ∀ q ∈ ix_mm15, ix_mok q := List.forall_mem_cons.mpr ⟨ix_mv300, List.forall_mem_cons.mpr ⟨ix_mv301, List.forall_mem_cons.mpr ⟨ix_mv302, List.forall_mem_cons.mpr ⟨ix_mv303, List.forall_mem_cons.mpr ⟨ix_mv304, List.forall_mem_cons.mpr ⟨ix_mv305, List.forall_mem_cons.mpr ⟨ix_mv306, List.forall_mem_cons.mpr ⟨ix_mv307, List.forall_mem_cons.mpr ⟨ix_mv308, List.forall_mem_cons.mpr ⟨ix_mv309, List.forall_mem_cons.mpr ⟨ix_mv310, List.forall_mem_cons.mpr ⟨ix_mv311, List.forall_mem_cons.mpr ⟨ix_mv312, List.forall_mem_cons.mpr ⟨ix_mv313, List.forall_mem_cons.mpr ⟨ix_mv314, List.forall_mem_cons.mpr ⟨ix_mv315, List.forall_mem_cons.mpr ⟨ix_mv316, List.forall_mem_cons.mpr ⟨ix_mv317, List.forall_mem_cons.mpr ⟨ix_mv318, List.forall_mem_cons.mpr ⟨ix_mv319, fun _ h => absurd h List.not_mem_nil⟩⟩⟩⟩⟩⟩⟩⟩⟩⟩⟩⟩⟩⟩⟩⟩⟩⟩⟩⟩
theorem ix_mmv16 : ∀ q ∈ ix_mm16, ix_mok q := List.forall_mem_cons.mpr ⟨ix_mv320, List.forall_mem_cons.mpr ⟨ix_mv321, List.forall_mem_cons.mpr ⟨ix_mv322, List.forall_mem_cons.mpr ⟨ix_mv323, List.forall_mem_cons.mpr ⟨ix_mv324, List.forall_mem_cons.mpr ⟨ix_mv325, List.forall_mem_cons.mpr ⟨ix_mv326, List.forall_mem_cons.mpr ⟨ix_mv327, List.forall_mem_cons.mpr ⟨ix_mv328, List.forall_mem_cons.mpr ⟨ix_mv329, List.forall_mem_cons.mpr ⟨ix_mv330, List.forall_mem_cons.mpr ⟨ix_mv331, List.forall_mem_cons.mpr ⟨ix_mv332, List.forall_mem_cons.mpr ⟨ix_mv333, List.forall_mem_cons.mpr ⟨ix_mv334, List.forall_mem_cons.mpr ⟨ix_mv335, List.forall_mem_cons.mpr ⟨ix_mv336, List.forall_mem_cons.mpr ⟨ix_mv337, List.forall_mem_cons.mpr ⟨ix_mv338, List.forall_mem_cons.mpr ⟨ix_mv339, fun _ h => absurd h List.not_mem_nil⟩⟩⟩⟩⟩⟩⟩⟩⟩⟩⟩⟩⟩⟩⟩⟩⟩⟩⟩⟩
theorem ix_mmv17 : ∀ q ∈ ix_mm17, ix_mok q := List.forall_mem_cons.mpr ⟨ix_mv340, List.forall_mem_cons.mpr ⟨ix_mv341, List.forall_mem_cons.mpr ⟨ix_mv342, List.forall_mem_cons.mpr ⟨ix_mv343, List.forall_mem_cons.mpr ⟨ix_mv344, List.forall_mem_cons.mpr ⟨ix_mv345, List.forall_mem_cons.mpr ⟨ix_mv346, List.forall_mem_cons.mpr ⟨ix_mv347, List.forall_mem_cons.mpr ⟨ix_mv348, List.forall_mem_cons.mpr ⟨ix_mv349, List.forall_mem_cons.mpr ⟨ix_mv350, List.forall_mem_cons.mpr ⟨ix_mv351, List.forall_mem_cons.mpr ⟨ix_mv352, List.forall_mem_cons.mpr ⟨ix_mv353, List.forall_mem_cons.mpr ⟨ix_mv354, List.forall_mem_cons.mpr ⟨ix_mv355, fun _ h => absurd h List.not_mem_nil⟩⟩⟩⟩⟩⟩⟩⟩⟩⟩⟩⟩⟩⟩⟩⟩
theorem ix_mtv {i : Nat} {q : ix_Mt} (h : ix_mt i = some q) : ix_mok q := by
  unfold ix_mt at h
  split at h
  · exact ix_mmv0 q (List.mem_of_getElem? h)
  · exact ix_mmv1 q (List.mem_of_getElem? h)
  · exact ix_mmv2 q (List.mem_of_getElem? h)
  · exact ix_mmv3 q (List.mem_of_getElem? h)
  · exact ix_mmv4 q (List.mem_of_getElem? h)
  · exact ix_mmv5 q (List.mem_of_getElem? h)
  · exact ix_mmv6 q (List.mem_of_getElem? h)
  · exact ix_mmv7 q (List.mem_of_getElem? h)
  · exact ix_mmv8 q (List.mem_of_getElem? h)
  · exact ix_mmv9 q (List.mem_of_getElem? h)
  · exact ix_mmv10 q (List.mem_of_getElem? h)
  · exact ix_mmv11 q (List.mem_of_getElem? h)
  · exact ix_mmv12 q (List.mem_of_getElem? h)
  · exact ix_mmv13 q (List.mem_of_getElem? h)
  · exact ix_mmv14 q (List.mem_of_getElem? h)
  · exact ix_mmv15 q (List.mem_of_getElem? h)
  · exact ix_mmv16 q (List.mem_of_getElem? h)
  · exact ix_mmv17 q (List.mem_of_getElem? h)
  · cases h
theorem ix_vwi0 : ix_lw0.all (fun q => ix_ilen q.2.1 q.2.2) = true := by decide +kernel
theorem ix_vwi1 : ix_lw1.all (fun q => ix_ilen q.2.1 q.2.2) = true := by decide +kernel
theorem ix_vwi2 : ix_lw2.all (fun q => ix_ilen q.2.1 q.2.2) = true := by decide +kernel
theorem ix_vwi3 : ix_lw3.all (fun q => ix_ilen q.2.1 q.2.2) = true := by decide +kernel
theorem ix_vwi4 : ix_lw4.all (fun q => ix_ilen q.2.1 q.2.2) = true := by decide +kernel
theorem ix_vwi5 : ix_lw5.all (fun q => ix_ilen q.2.1 q.2.2) = true := by decide +kernel
theorem ix_vwi6 : ix_lw6.all (fun q => ix_ilen q.2.1 q.2.2) = true := by decide +kernel
theorem ix_vwi7 : ix_lw7.all (fun q => ix_ilen q.2.1 q.2.2) = true := by decide +kernel
theorem ix_vwi8 : ix_lw8.all (fun q => ix_ilen q.2.1 q.2.2) = true := by decide +kernel
theorem ix_vwi9 : ix_lw9.all (fun q => ix_ilen q.2.1 q.2.2) = true := by decide +kernel
theorem ix_vwi10 : ix_lw10.all (fun q => ix_ilen q.2.1 q.2.2) = true := by decide +kernel
theorem ix_vwi11 : ix_lw11.all (fun q => ix_ilen q.2.1 q.2.2) = true := by decide +kernel
theorem ix_vwi12 : ix_lw12.all (fun q => ix_ilen q.2.1 q.2.2) = true := by decide +kernel
theorem ix_vwi13 : ix_lw13.all (fun q => ix_ilen q.2.1 q.2.2) = true := by decide +kernel
theorem ix_vwi14 : ix_lw14.all (fun q => ix_ilen q.2.1 q.2.2) = true := by decide +kernel
theorem ix_vwi15 : ix_lw15.all (fun q => ix_ilen q.2.1 q.2.2) = true := by decide +kernel
theorem ix_vwi16 : ix_lw16.all (fun q => ix_ilen q.2.1 q.2.2) = true := by decide +kernel
theorem ix_vwi17 : ix_lw17.all (fun q => ix_ilen q.2.1 q.2.2) = true := by decide +kernel
theorem ix_vwi18 : ix_lw18.all (fun q => ix_ilen q.2.1 q.2.2) = true := by decide +kernel
theorem ix_vwi19 : ix_lw19.all (fun q => ix_ilen q.2.1 q.2.2) = true := by decide +kernel
theorem ix_vwi20 : ix_lw20.all (fun q => ix_ilen q.2.1 q.2.2) = true := by decide +kernel
theorem ix_vwi21 : ix_lw21.all (fun q => ix_ilen q.2.1 q.2.2) = true := by decide +kernel
theorem ix_lawv {pc : Nat} {v : Instr × Nat} (h : ix_lawf pc = some v) : decode code pc = .ok v ∧ ix_ilen v.1 v.2 = true := by
  have key : ∀ {l : List ix_In}, ix_v code l = true → l.all (fun q => ix_ilen q.2.1 q.2.2) = true → ix_lk l pc = some v → decode code pc = .ok v ∧ ix_ilen v.1 v.2 = true := fun hl hi hk => ⟨ix_v_ok hl hk, ix_il_ok hi hk⟩
  have cs : ∀ {b : Bool} {x y : Option (Instr × Nat)}, cond b x y = some v → x = some v ∨ y = some v := fun {b} {x} {y} h => by cases b <;> first | exact Or.inl h | exact Or.inr h
  unfold ix_lawf at h
  rcases cs h with h | h
  · skip
    rcases cs h with h | h
    · skip
      rcases cs h with h | h
      · skip
        rcases cs h with h | h
        · skip
          exact key ix_vw0 ix_vwi0 h
        · skip
          exact key ix_vw1 ix_vwi1 h
      · skip
        rcases cs h with h | h
        · skip
          exact key ix_vw2 ix_vwi2 h
        · skip
          rcases cs h with h | h
          · skip
            exact key ix_vw3 ix_vwi3 h
          · skip
            exact key ix_vw4 ix_vwi4 h
    · skip
      rcases cs h with h | h
      · skip
        rcases cs h with h | h
        · skip
          exact key ix_vw5 ix_vwi5 h
        · skip
          rcases cs h with h | h
          · skip
            exact key ix_vw6 ix_vwi6 h
          · skip
            exact key ix_vw7 ix_vwi7 h
      · skip
        rcases cs h with h | h
        · skip
          exact key ix_vw8 ix_vwi8 h
        · skip
          rcases cs h with h | h
          · skip
            exact key ix_vw9 ix_vwi9 h
          · skip
            exact key ix_vw10 ix_vwi10 h
  · skip
    rcases cs h with h | h
    · skip
      rcases cs h with h | h
      · skip
        rcases cs h with h | h
        · skip
          exact key ix_vw11 ix_vwi11 h
        · skip
          exact key ix_vw12 ix_vwi12 h
      · skip
        rcases cs h with h | h
        · skip
          exact key ix_vw13 ix_vwi13 h
        · skip
          rcases cs h with h | h
          · skip
            exact key ix_vw14 ix_vwi14 h
          · skip
            exact key ix_vw15 ix_vwi15 h
    · skip
      rcases cs h with h | h
      · skip
        rcases cs h with h | h
        · skip
          exact key ix_vw16 ix_vwi16 h
        · skip
          rcases cs h with h | h
          · skip
            exact key ix_vw17 ix_vwi17 h
          · skip
            exact key ix_vw18 ix_vwi18 h
      · skip
        rcases cs h with h | h
        · skip
          exact key ix_vw19 ix_vwi19 h
        · skip
          rcases cs h with h | h
          · skip
            exact key ix_vw20 ix_vwi20 h
          · skip
            exact key ix_vw21 ix_vwi21 h


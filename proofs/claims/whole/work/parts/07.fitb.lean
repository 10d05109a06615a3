theorem fit_144 : FIT 144 := ⟨rfl, show fitL kX11_strike cX11_strike 11 2 2 44 (some (.int)) 0 kX11_strike = true from by decide +kernel⟩
theorem fit_145 : FIT 145 := ⟨rfl, show fitL kX11_known cX11_known 11 2 1 22 (some (.boolean)) 0 kX11_known = true from by decide +kernel⟩
theorem fit_146 : FIT 146 := ⟨rfl, show fitL kX11_doubts cX11_doubts 11 4 6 150 (some (.int)) 0 kX11_doubts = true from by decide +kernel⟩
theorem fit_147 : FIT 147 := ⟨rfl, show fitL kX11_chance cX11_chance 11 9 6 150 (some (.int)) 0 kX11_chance = true from by decide +kernel⟩
theorem fit_148 : FIT 148 := ⟨rfl, show fitL kX11_tried cX11_tried 11 5 6 150 (some (.int)) 0 kX11_tried = true from by decide +kernel⟩
theorem fit_149 : FIT 149 := ⟨rfl, show fitL kX11_undo cX11_undo 11 1 1 22 (some (.int)) 0 kX11_undo = true from by decide +kernel⟩
theorem fit_150 : FIT 150 := ⟨rfl, show fitL kX11_keep cX11_keep 11 1 2 69 (some (.int)) 0 kX11_keep = true from by decide +kernel⟩
theorem fit_151 : FIT 151 := ⟨rfl, show fitL kX11_back cX11_back 11 1 2 69 (some (.int)) 0 kX11_back = true from by decide +kernel⟩
theorem fit_152 : FIT 152 := ⟨rfl, show fitL kX11_count cX11_count 11 2 2 44 (some (.int)) 0 kX11_count = true from by decide +kernel⟩
theorem fit_153 : FIT 153 := ⟨rfl, show fitL kX11_isGrower cX11_isGrower 11 2 0 0 (some (.boolean)) 0 kX11_isGrower = true from by decide +kernel⟩
theorem fit_154 : FIT 154 := ⟨rfl, show fitL kX11_isRibbon cX11_isRibbon 11 2 0 0 (some (.boolean)) 0 kX11_isRibbon = true from by decide +kernel⟩
theorem fit_155 : FIT 155 := ⟨rfl, show fitL kX11_areTwo cX11_areTwo 11 3 1 21 (some (.boolean)) 0 kX11_areTwo = true from by decide +kernel⟩
theorem fit_156 : FIT 156 := ⟨rfl, show fitL kX11_isWithin cX11_isWithin 11 3 0 0 (some (.boolean)) 0 kX11_isWithin = true from by decide +kernel⟩
theorem fit_157 : FIT 157 := ⟨rfl, show fitL kX11_has cX11_has 11 2 0 0 (some (.boolean)) 0 kX11_has = true from by decide +kernel⟩
theorem fit_158 : FIT 158 := ⟨rfl, show fitL kX11_beginAnew cX11_beginAnew 11 1 3 91 none 0 kX11_beginAnew = true from by decide +kernel⟩
theorem fit_159 : FIT 159 := ⟨rfl, show fitL kX11_ribbonsOf cX11_ribbonsOf 11 4 0 0 (some (.int)) 0 kX11_ribbonsOf = true from by decide +kernel⟩
theorem fit_160 : FIT 160 := ⟨rfl, show fitL kX11_isRest cX11_isRest 11 6 1 25 (some (.boolean)) 0 kX11_isRest = true from by decide +kernel⟩
theorem fit_161 : FIT 161 := ⟨rfl, show fitL kX11_share cX11_share 11 6 0 0 (some (.int)) 0 kX11_share = true from by decide +kernel⟩
theorem fit_162 : FIT 162 := ⟨rfl, show fitL kX11_areSightsSo cX11_areSightsSo 11 3 5 128 (some (.boolean)) 0 kX11_areSightsSo = true from by decide +kernel⟩
theorem fit_163 : FIT 163 := ⟨rfl, show fitL kX12_thrown cX12_thrown 12 1 0 0 (some (.int)) 0 kX12_thrown = true from by decide +kernel⟩
theorem fit_164 : FIT 164 := ⟨rfl, show fitL kX12_feed cX12_feed 12 8 0 0 (some (.int)) 0 kX12_feed = true from by decide +kernel⟩
theorem fit_165 : FIT 165 := ⟨rfl, show fitL kX12_isIn cX12_isIn 12 3 0 0 (some (.boolean)) 0 kX12_isIn = true from by decide +kernel⟩
theorem fit_166 : FIT 166 := ⟨rfl, show fitL kX12_isOf cX12_isOf 12 2 0 0 (some (.boolean)) 0 kX12_isOf = true from by decide +kernel⟩
theorem fit_167 : FIT 167 := ⟨rfl, show fitL kX12_wrong cX12_wrong 12 2 0 0 (some (.boolean)) 0 kX12_wrong = true from by decide +kernel⟩
theorem fit_168 : FIT 168 := ⟨rfl, show fitL kX12_wordAt cX12_wordAt 12 8 0 0 (some (.int)) 0 kX12_wordAt = true from by decide +kernel⟩
theorem fit_169 : FIT 169 := ⟨rfl, show fitL kX12_isSmall cX12_isSmall 12 2 0 0 (some (.boolean)) 0 kX12_isSmall = true from by decide +kernel⟩
theorem fit_170 : FIT 170 := ⟨rfl, show fitL kX12_isDigit cX12_isDigit 12 2 0 0 (some (.boolean)) 0 kX12_isDigit = true from by decide +kernel⟩
theorem fit_171 : FIT 171 := ⟨rfl, show fitL kX12_token cX12_token 12 1 1 27 none 0 kX12_token = true from by decide +kernel⟩
theorem fit_172 : FIT 172 := ⟨rfl, show fitL kX12_signToken cX12_signToken 12 4 0 0 none 0 kX12_signToken = true from by decide +kernel⟩
theorem fit_173 : FIT 173 := ⟨rfl, show fitL kX12_packed cX12_packed 12 5 0 0 (some (.int)) 0 kX12_packed = true from by decide +kernel⟩
theorem fit_174 : FIT 174 := ⟨rfl, show fitL kX12_isKey cX12_isKey 12 2 0 0 (some (.boolean)) 0 kX12_isKey = true from by decide +kernel⟩
theorem fit_175 : FIT 175 := ⟨rfl, show fitL kX12_isSign cX12_isSign 12 2 0 0 (some (.boolean)) 0 kX12_isSign = true from by decide +kernel⟩
theorem fit_176 : FIT 176 := ⟨rfl, show fitL kX12_number cX12_number 12 3 2 47 (some (.boolean)) 0 kX12_number = true from by decide +kernel⟩
theorem fit_177 : FIT 177 := ⟨rfl, show fitL kX12_signed cX12_signed 12 3 3 69 (some (.boolean)) 0 kX12_signed = true from by decide +kernel⟩
theorem fit_178 : FIT 178 := ⟨rfl, show fitL kX12_plain cX12_plain 12 2 0 0 none 0 kX12_plain = true from by decide +kernel⟩
theorem fit_179 : FIT 179 := ⟨rfl, show fitL kX12_copies cX12_copies 12 3 0 0 none 0 kX12_copies = true from by decide +kernel⟩
theorem fit_180 : FIT 180 := ⟨rfl, show fitL kX12_keepText cX12_keepText 12 2 2 42 none 0 kX12_keepText = true from by decide +kernel⟩
theorem fit_181 : FIT 181 := ⟨rfl, show fitL kX12_find cX12_find 12 5 0 0 (some (.int)) 0 kX12_find = true from by decide +kernel⟩
theorem fit_182 : FIT 182 := ⟨rfl, show fitL kX12_growerThere cX12_growerThere 12 2 2 47 (some (.boolean)) 0 kX12_growerThere = true from by decide +kernel⟩
theorem fit_183 : FIT 183 := ⟨rfl, show fitL kX12_growerLine cX12_growerLine 12 2 4 91 (some (.boolean)) 0 kX12_growerLine = true from by decide +kernel⟩
theorem fit_184 : FIT 184 := ⟨rfl, show fitL kX12_seesLine cX12_seesLine 12 3 3 68 (some (.boolean)) 0 kX12_seesLine = true from by decide +kernel⟩
theorem fit_185 : FIT 185 := ⟨rfl, show fitL kX12_ribbonLine cX12_ribbonLine 12 1 3 68 (some (.boolean)) 0 kX12_ribbonLine = true from by decide +kernel⟩
theorem fit_186 : FIT 186 := ⟨rfl, show fitL kX12_onceLine cX12_onceLine 12 3 3 69 (some (.boolean)) 0 kX12_onceLine = true from by decide +kernel⟩
theorem fit_187 : FIT 187 := ⟨rfl, show fitL kX12_lineRead cX12_lineRead 12 3 5 112 (some (.boolean)) 0 kX12_lineRead = true from by decide +kernel⟩
theorem fit_188 : FIT 188 := ⟨rfl, show fitL kX12_text cX12_text 12 3 6 134 (some (.int)) 0 kX12_text = true from by decide +kernel⟩
theorem fit_189 : FIT 189 := ⟨rfl, show fitL kX12_fault cX12_fault 12 2 0 0 (some (.int)) 0 kX12_fault = true from by decide +kernel⟩
theorem fit_190 : FIT 190 := ⟨rfl, show fitL kX12_named cX12_named 12 2 1 24 (some (.int)) 0 kX12_named = true from by decide +kernel⟩
theorem fit_191 : FIT 191 := ⟨rfl, show fitL kX12_rankOf cX12_rankOf 12 1 0 0 (some (.int)) 0 kX12_rankOf = true from by decide +kernel⟩
theorem fit_192 : FIT 192 := ⟨rfl, show fitL kX12_grown cX12_grown 12 4 0 0 none 0 kX12_grown = true from by decide +kernel⟩
theorem fit_193 : FIT 193 := ⟨rfl, show fitL kX12_dropHeld cX12_dropHeld 12 1 0 0 (some (.int)) 0 kX12_dropHeld = true from by decide +kernel⟩
theorem fit_194 : FIT 194 := ⟨rfl, show fitL kX12_bind cX12_bind 12 5 1 23 none 0 kX12_bind = true from by decide +kernel⟩
theorem fit_195 : FIT 195 := ⟨rfl, show fitL kX12_isCounted cX12_isCounted 12 1 1 21 (some (.boolean)) 0 kX12_isCounted = true from by decide +kernel⟩
theorem fit_196 : FIT 196 := ⟨rfl, show fitL kX12_waitsFor cX12_waitsFor 12 2 0 0 none 0 kX12_waitsFor = true from by decide +kernel⟩
theorem fit_197 : FIT 197 := ⟨rfl, show fitL kX12_nameMet cX12_nameMet 12 1 0 0 (some (.int)) 0 kX12_nameMet = true from by decide +kernel⟩
theorem fit_198 : FIT 198 := ⟨rfl, show fitL kX12_leafRead cX12_leafRead 12 2 2 47 (some (.boolean)) 0 kX12_leafRead = true from by decide +kernel⟩
theorem fit_199 : FIT 199 := ⟨rfl, show fitL kX12_signs cX12_signs 12 2 2 47 (some (.boolean)) 0 kX12_signs = true from by decide +kernel⟩
theorem fit_200 : FIT 200 := ⟨rfl, show fitL kX12_sumRead cX12_sumRead 12 1 3 68 (some (.boolean)) 0 kX12_sumRead = true from by decide +kernel⟩
theorem fit_201 : FIT 201 := ⟨rfl, show fitL kX12_bounded cX12_bounded 12 3 0 0 (some (.long)) 0 kX12_bounded = true from by decide +kernel⟩
theorem fit_202 : FIT 202 := ⟨rfl, show fitL kX12_compares cX12_compares 12 5 0 0 (some (.boolean)) 0 kX12_compares = true from by decide +kernel⟩
theorem fit_203 : FIT 203 := ⟨rfl, show fitL kX12_times cX12_times 12 6 0 0 (some (.long)) 0 kX12_times = true from by decide +kernel⟩
theorem fit_204 : FIT 204 := ⟨rfl, show fitL kX12_valueOf cX12_valueOf 12 6 1 25 (some (.long)) 0 kX12_valueOf = true from by decide +kernel⟩
theorem fit_205 : FIT 205 := ⟨rfl, show fitL kX12_begin cX12_begin 12 1 1 22 none 0 kX12_begin = true from by decide +kernel⟩
theorem fit_206 : FIT 206 := ⟨rfl, show fitL kX12_atFirst cX12_atFirst 12 3 0 0 none 0 kX12_atFirst = true from by decide +kernel⟩
theorem fit_207 : FIT 207 := ⟨rfl, show fitL kX12_plainTried cX12_plainTried 12 1 0 0 none 0 kX12_plainTried = true from by decide +kernel⟩
theorem fit_208 : FIT 208 := ⟨rfl, show fitL kX12_layTried cX12_layTried 12 2 1 20 none 0 kX12_layTried = true from by decide +kernel⟩
theorem fit_209 : FIT 209 := ⟨rfl, show fitL kX12_isGrower cX12_isGrower 12 2 0 0 (some (.boolean)) 0 kX12_isGrower = true from by decide +kernel⟩
theorem fit_210 : FIT 210 := ⟨rfl, show fitL kX12_isRibbon cX12_isRibbon 12 2 0 0 (some (.boolean)) 0 kX12_isRibbon = true from by decide +kernel⟩
theorem fit_211 : FIT 211 := ⟨rfl, show fitL kX12_areTwo cX12_areTwo 12 3 1 21 (some (.boolean)) 0 kX12_areTwo = true from by decide +kernel⟩
theorem fit_212 : FIT 212 := ⟨rfl, show fitL kX12_apart cX12_apart 12 2 0 0 (some (.int)) 0 kX12_apart = true from by decide +kernel⟩
theorem fit_213 : FIT 213 := ⟨rfl, show fitL kX12_doubtIn cX12_doubtIn 12 2 0 0 (some (.int)) 0 kX12_doubtIn = true from by decide +kernel⟩
theorem fit_214 : FIT 214 := ⟨rfl, show fitL kX12_layNames cX12_layNames 12 5 1 21 none 0 kX12_layNames = true from by decide +kernel⟩
theorem fit_215 : FIT 215 := ⟨rfl, show fitL kX12_lawOf cX12_lawOf 12 3 2 50 (some (.long)) 0 kX12_lawOf = true from by decide +kernel⟩
theorem fit_216 : FIT 216 := ⟨rfl, show fitL kX12_boundLaw cX12_boundLaw 12 7 3 72 (some (.int)) 0 kX12_boundLaw = true from by decide +kernel⟩
theorem fit_217 : FIT 217 := ⟨rfl, show fitL kX12_judgedBy cX12_judgedBy 12 5 4 98 (some (.int)) 0 kX12_judgedBy = true from by decide +kernel⟩
theorem fit_218 : FIT 218 := ⟨rfl, show fitL kX12_seenBy cX12_seenBy 12 4 0 0 (some (.int)) 0 kX12_seenBy = true from by decide +kernel⟩
theorem fit_219 : FIT 219 := ⟨rfl, show fitL kX12_bestOf cX12_bestOf 12 8 5 122 (some (.int)) 0 kX12_bestOf = true from by decide +kernel⟩
theorem fit_220 : FIT 220 := ⟨rfl, show fitL kX12_gives cX12_gives 12 6 3 72 (some (.boolean)) 0 kX12_gives = true from by decide +kernel⟩
theorem fit_221 : FIT 221 := ⟨rfl, show fitL kX12_number1 cX12_number1 12 2 0 0 (some (.int)) 0 kX12_number1 = true from by decide +kernel⟩
theorem fit_222 : FIT 222 := ⟨rfl, show fitL kX12_isBlight cX12_isBlight 12 1 1 21 (some (.boolean)) 0 kX12_isBlight = true from by decide +kernel⟩
theorem fit_223 : FIT 223 := ⟨rfl, show fitL kX12_hands cX12_hands 12 4 0 0 none 0 kX12_hands = true from by decide +kernel⟩
theorem fit_224 : FIT 224 := ⟨rfl, show fitL kX12_yearGoes cX12_yearGoes 12 5 6 149 none 0 kX12_yearGoes = true from by decide +kernel⟩
theorem fit_225 : FIT 225 := ⟨rfl, show fitL kX12_goMany cX12_goMany 12 3 7 173 none 0 kX12_goMany = true from by decide +kernel⟩
theorem fit_226 : FIT 226 := ⟨rfl, show fitL kX12_fails cX12_fails 12 2 0 0 (some (.int)) 0 kX12_fails = true from by decide +kernel⟩
theorem fit_227 : FIT 227 := ⟨rfl, show fitL kX12_ribbonsOf cX12_ribbonsOf 12 5 0 0 (some (.int)) 0 kX12_ribbonsOf = true from by decide +kernel⟩
theorem fit_228 : FIT 228 := ⟨rfl, show fitL kX12_grower cX12_grower 12 3 1 24 (some (.int)) 0 kX12_grower = true from by decide +kernel⟩
theorem fit_229 : FIT 229 := ⟨rfl, show fitL kX12_ribbon cX12_ribbon 12 3 1 21 (some (.int)) 0 kX12_ribbon = true from by decide +kernel⟩
theorem fit_230 : FIT 230 := ⟨rfl, show fitL kX12_judged cX12_judged 12 3 5 122 (some (.int)) 0 kX12_judged = true from by decide +kernel⟩
theorem fit_231 : FIT 231 := ⟨rfl, show fitL kX12_best cX12_best 12 2 6 149 (some (.int)) 0 kX12_best = true from by decide +kernel⟩
theorem fit_232 : FIT 232 := ⟨rfl, show fitL kX12_law cX12_law 12 6 3 72 (some (.long)) 0 kX12_law = true from by decide +kernel⟩
theorem fit_233 : FIT 233 := ⟨rfl, show fitL kX12_show cX12_show 12 4 2 44 (some (.boolean)) 0 kX12_show = true from by decide +kernel⟩
theorem fit_234 : FIT 234 := ⟨rfl, show fitL kX12_raise cX12_raise 12 4 2 44 (some (.int)) 0 kX12_raise = true from by decide +kernel⟩
theorem fit_235 : FIT 235 := ⟨rfl, show fitL kX12_hand cX12_hand 12 3 2 44 (some (.boolean)) 0 kX12_hand = true from by decide +kernel⟩
theorem fit_236 : FIT 236 := ⟨rfl, show fitL kX12_go cX12_go 12 3 7 173 (some (.int)) 0 kX12_go = true from by decide +kernel⟩
theorem fit_237 : FIT 237 := ⟨rfl, show fitL kX12_handedAll cX12_handedAll 12 4 0 0 (some (.int)) 0 kX12_handedAll = true from by decide +kernel⟩
theorem fit_238 : FIT 238 := ⟨rfl, show fitL kX12_ahead cX12_ahead 12 4 8 195 (some (.int)) 0 kX12_ahead = true from by decide +kernel⟩
theorem fit_239 : FIT 239 := ⟨rfl, show fitL kX12_ringOf cX12_ringOf 12 7 6 149 (some (.int)) 0 kX12_ringOf = true from by decide +kernel⟩
theorem fit_240 : FIT 240 := ⟨rfl, show fitL kX12_ring cX12_ring 12 4 7 175 (some (.int)) 0 kX12_ring = true from by decide +kernel⟩
theorem fit_241 : FIT 241 := ⟨rfl, show fitL kX12_turns cX12_turns 12 2 0 0 none 0 kX12_turns = true from by decide +kernel⟩
theorem fit_242 : FIT 242 := ⟨rfl, show fitL kX12_mayTurn cX12_mayTurn 12 3 2 43 (some (.boolean)) 0 kX12_mayTurn = true from by decide +kernel⟩
theorem fit_243 : FIT 243 := ⟨rfl, show fitL kX12_isSoBy cX12_isSoBy 12 6 8 195 (some (.boolean)) 0 kX12_isSoBy = true from by decide +kernel⟩
theorem fit_244 : FIT 244 := ⟨rfl, show fitL kX12_changes cX12_changes 12 7 9 220 (some (.boolean)) 0 kX12_changes = true from by decide +kernel⟩
theorem fit_245 : FIT 245 := ⟨rfl, show fitL kX12_changed cX12_changed 12 3 0 0 (some (.int)) 0 kX12_changed = true from by decide +kernel⟩
theorem fit_246 : FIT 246 := ⟨rfl, show fitL kX12_free cX12_free 12 3 10 246 (some (.int)) 0 kX12_free = true from by decide +kernel⟩
theorem fit_247 : FIT 247 := ⟨rfl, show fitL kX12_lead cX12_lead 12 5 10 246 (some (.int)) 0 kX12_lead = true from by decide +kernel⟩
theorem fit_248 : FIT 248 := ⟨rfl, show fitL kX12_rowsOf cX12_rowsOf 12 3 0 0 (some (.int)) 0 kX12_rowsOf = true from by decide +kernel⟩
theorem fit_249 : FIT 249 := ⟨rfl, show fitL kX12_layRow cX12_layRow 12 10 1 22 none 0 kX12_layRow = true from by decide +kernel⟩
theorem fit_250 : FIT 250 := ⟨rfl, show fitL kX12_walk cX12_walk 12 11 2 51 (some (.int)) 0 kX12_walk = true from by decide +kernel⟩
theorem fit_251 : FIT 251 := ⟨rfl, show fitL kX12_meet cX12_meet 12 2 7 173 (some (.int)) 0 kX12_meet = true from by decide +kernel⟩
theorem fit_252 : FIT 252 := ⟨rfl, show fitL kX12_reach cX12_reach 12 5 1 21 (some (.int)) 0 kX12_reach = true from by decide +kernel⟩
theorem fit_253 : FIT 253 := ⟨rfl, show fitL kX12_deserves cX12_deserves 12 3 0 0 (some (.int)) 0 kX12_deserves = true from by decide +kernel⟩
theorem fit_254 : FIT 254 := ⟨rfl, show fitL kX12_wayBy cX12_wayBy 12 7 1 21 (some (.int)) 0 kX12_wayBy = true from by decide +kernel⟩
theorem fit_255 : FIT 255 := ⟨rfl, show fitL kX12_visit cX12_visit 12 9 2 47 (some (.int)) 0 kX12_visit = true from by decide +kernel⟩
theorem fit_256 : FIT 256 := ⟨rfl, show fitL kX12_hosts cX12_hosts 12 5 7 173 (some (.int)) 0 kX12_hosts = true from by decide +kernel⟩
theorem fit_257 : FIT 257 := ⟨rfl, show fitL kX12_rank cX12_rank 12 4 1 21 (some (.int)) 0 kX12_rank = true from by decide +kernel⟩
theorem fit_258 : FIT 258 := ⟨rfl, show fitL kX12_keepers cX12_keepers 12 3 4 97 (some (.int)) 0 kX12_keepers = true from by decide +kernel⟩
theorem fit_259 : FIT 259 := ⟨rfl, show fitL kX12_comesTo cX12_comesTo 12 4 7 173 (some (.int)) 0 kX12_comesTo = true from by decide +kernel⟩
theorem fit_260 : FIT 260 := ⟨rfl, show fitL kX12_popular cX12_popular 12 6 0 0 (some (.int)) 0 kX12_popular = true from by decide +kernel⟩
theorem fit_261 : FIT 261 := ⟨rfl, show fitL kX12_mutual cX12_mutual 12 4 1 21 (some (.int)) 0 kX12_mutual = true from by decide +kernel⟩
theorem fit_262 : FIT 262 := ⟨rfl, show fitL kX12_lonely cX12_lonely 12 3 0 0 (some (.int)) 0 kX12_lonely = true from by decide +kernel⟩
theorem fit_263 : FIT 263 := ⟨rfl, show fitL kX12_hasBy cX12_hasBy 12 5 0 0 (some (.int)) 0 kX12_hasBy = true from by decide +kernel⟩
theorem fit_264 : FIT 264 := ⟨rfl, show fitL kX12_restAt cX12_restAt 12 8 1 24 (some (.int)) 0 kX12_restAt = true from by decide +kernel⟩
theorem fit_265 : FIT 265 := ⟨rfl, show fitL kX12_rests cX12_rests 12 3 2 51 (some (.int)) 0 kX12_rests = true from by decide +kernel⟩
theorem fit_266 : FIT 266 := ⟨rfl, show fitL kX12_rest cX12_rest 12 4 2 51 (some (.int)) 0 kX12_rest = true from by decide +kernel⟩
theorem fit_267 : FIT 267 := ⟨rfl, show fitL kX12_lays cX12_lays 12 7 0 0 (some (.int)) 0 kX12_lays = true from by decide +kernel⟩
theorem fit_268 : FIT 268 := ⟨rfl, show fitL kX12_note cX12_note 12 3 2 43 (some (.int)) 0 kX12_note = true from by decide +kernel⟩
theorem fit_269 : FIT 269 := ⟨rfl, show fitL kX12_see cX12_see 12 5 1 26 (some (.int)) 0 kX12_see = true from by decide +kernel⟩
theorem fit_270 : FIT 270 := ⟨rfl, show fitL kX12_strike cX12_strike 12 2 1 26 (some (.int)) 0 kX12_strike = true from by decide +kernel⟩
theorem fit_271 : FIT 271 := ⟨rfl, show fitL kX12_known cX12_known 12 2 1 22 (some (.boolean)) 0 kX12_known = true from by decide +kernel⟩
theorem fit_272 : FIT 272 := ⟨rfl, show fitL kX12_knownBy cX12_knownBy 12 1 0 0 (some (.int)) 0 kX12_knownBy = true from by decide +kernel⟩
theorem fit_273 : FIT 273 := ⟨rfl, show fitL kX12_layCounts cX12_layCounts 12 2 1 20 none 0 kX12_layCounts = true from by decide +kernel⟩
theorem fit_274 : FIT 274 := ⟨rfl, show fitL kX12_clashesOf cX12_clashesOf 12 7 1 21 (some (.int)) 0 kX12_clashesOf = true from by decide +kernel⟩
theorem fit_275 : FIT 275 := ⟨rfl, show fitL kX12_order cX12_order 12 6 2 51 (some (.int)) 0 kX12_order = true from by decide +kernel⟩
theorem fit_276 : FIT 276 := ⟨rfl, show fitL kX12_isSo cX12_isSo 12 4 1 20 (some (.boolean)) 0 kX12_isSo = true from by decide +kernel⟩
theorem fit_277 : FIT 277 := ⟨rfl, show fitL kX12_fits cX12_fits 12 4 7 173 (some (.boolean)) 0 kX12_fits = true from by decide +kernel⟩
theorem fit_278 : FIT 278 := ⟨rfl, show fitL kX12_doubts cX12_doubts 12 4 8 196 (some (.int)) 0 kX12_doubts = true from by decide +kernel⟩
theorem fit_279 : FIT 279 := ⟨rfl, show fitL kX12_chance cX12_chance 12 9 8 195 (some (.int)) 0 kX12_chance = true from by decide +kernel⟩
theorem fit_280 : FIT 280 := ⟨rfl, show fitL kX12_tried cX12_tried 12 4 8 195 (some (.int)) 0 kX12_tried = true from by decide +kernel⟩
theorem fit_281 : FIT 281 := ⟨rfl, show fitL kX12_put cX12_put 12 4 0 0 none 0 kX12_put = true from by decide +kernel⟩
theorem fit_282 : FIT 282 := ⟨rfl, show fitL kX12_take cX12_take 12 4 0 0 none 0 kX12_take = true from by decide +kernel⟩
theorem fit_283 : FIT 283 := ⟨rfl, show fitL kX12_remember cX12_remember 12 2 1 23 none 0 kX12_remember = true from by decide +kernel⟩
theorem fit_284 : FIT 284 := ⟨rfl, show fitL kX12_undo cX12_undo 12 1 1 23 (some (.int)) 0 kX12_undo = true from by decide +kernel⟩
theorem fit_285 : FIT 285 := ⟨rfl, show fitL kX12_keep cX12_keep 12 1 1 23 (some (.int)) 0 kX12_keep = true from by decide +kernel⟩
theorem fit_286 : FIT 286 := ⟨rfl, show fitL kX12_back cX12_back 12 1 1 23 (some (.int)) 0 kX12_back = true from by decide +kernel⟩
theorem fit_287 : FIT 287 := ⟨rfl, show fitL kX12_count cX12_count 12 4 1 23 (some (.int)) 0 kX12_count = true from by decide +kernel⟩
theorem fit_288 : FIT 288 := ⟨rfl, show fitL kJ6_bitCount_0f7a4 cJ6_bitCount_0f7a4 13 1 0 0 (some (.int)) 0 kJ6_bitCount_0f7a4 = true from by decide +kernel⟩
theorem fitc_9 : ∀ a ∈ [144, 145, 146, 147, 148, 149, 150, 151, 152, 153, 154, 155, 156, 157, 158, 159], FIT a := List.forall_mem_cons.mpr ⟨fit_144, List.forall_mem_cons.mpr ⟨fit_145, List.forall_mem_cons.mpr ⟨fit_146, List.forall_mem_cons.mpr ⟨fit_147, List.forall_mem_cons.mpr ⟨fit_148, List.forall_mem_cons.mpr ⟨fit_149, List.forall_mem_cons.mpr ⟨fit_150, List.forall_mem_cons.mpr ⟨fit_151, List.forall_mem_cons.mpr ⟨fit_152, List.forall_mem_cons.mpr ⟨fit_153, List.forall_mem_cons.mpr ⟨fit_154, List.forall_mem_cons.mpr ⟨fit_155, List.forall_mem_cons.mpr ⟨fit_156, List.forall_mem_cons.mpr ⟨fit_157, List.forall_mem_cons.mpr ⟨fit_158, List.forall_mem_cons.mpr ⟨fit_159, fun _ h => absurd h List.not_mem_nil⟩⟩⟩⟩⟩⟩⟩⟩⟩⟩⟩⟩⟩⟩⟩⟩
theorem fitc_10 : ∀ a ∈ [160, 161, 162, 163, 164, 165, 166, 167, 168, 169, 170, 171, 172, 173, 174, 175], FIT a := List.forall_mem_cons.mpr ⟨fit_160, List.forall_mem_cons.mpr ⟨fit_161, List.forall_mem_cons.mpr ⟨fit_162, List.forall_mem_cons.mpr ⟨fit_163, List.forall_mem_cons.mpr ⟨fit_164, List.forall_mem_cons.mpr ⟨fit_165, List.forall_mem_cons.mpr ⟨fit_166, List.forall_mem_cons.mpr ⟨fit_167, List.forall_mem_cons.mpr ⟨fit_168, List.forall_mem_cons.mpr ⟨fit_169, List.forall_mem_cons.mpr ⟨fit_170, List.forall_mem_cons.mpr ⟨fit_171, List.forall_mem_cons.mpr ⟨fit_172, List.forall_mem_cons.mpr ⟨fit_173, List.forall_mem_cons.mpr ⟨fit_174, List.forall_mem_cons.mpr ⟨fit_175, fun _ h => absurd h List.not_mem_nil⟩⟩⟩⟩⟩⟩⟩⟩⟩⟩⟩⟩⟩⟩⟩⟩
theorem fitc_11 : ∀ a ∈ [176, 177, 178, 179, 180, 181, 182, 183, 184, 185, 186, 187, 188, 189, 190, 191], FIT a := List.forall_mem_cons.mpr ⟨fit_176, List.forall_mem_cons.mpr ⟨fit_177, List.forall_mem_cons.mpr ⟨fit_178, List.forall_mem_cons.mpr ⟨fit_179, List.forall_mem_cons.mpr ⟨fit_180, List.forall_mem_cons.mpr ⟨fit_181, List.forall_mem_cons.mpr ⟨fit_182, List.forall_mem_cons.mpr ⟨fit_183, List.forall_mem_cons.mpr ⟨fit_184, List.forall_mem_cons.mpr ⟨fit_185, List.forall_mem_cons.mpr ⟨fit_186, List.forall_mem_cons.mpr ⟨fit_187, List.forall_mem_cons.mpr ⟨fit_188, List.forall_mem_cons.mpr ⟨fit_189, List.forall_mem_cons.mpr ⟨fit_190, List.forall_mem_cons.mpr ⟨fit_191, fun _ h => absurd h List.not_mem_nil⟩⟩⟩⟩⟩⟩⟩⟩⟩⟩⟩⟩⟩⟩⟩⟩
theorem fitc_12 : ∀ a ∈ [192, 193, 194, 195, 196, 197, 198, 199, 200, 201, 202, 203, 204, 205, 206, 207], FIT a := List.forall_mem_cons.mpr ⟨fit_192, List.forall_mem_cons.mpr ⟨fit_193, List.forall_mem_cons.mpr ⟨fit_194, List.forall_mem_cons.mpr ⟨fit_195, List.forall_mem_cons.mpr ⟨fit_196, List.forall_mem_cons.mpr ⟨fit_197, List.forall_mem_cons.mpr ⟨fit_198, List.forall_mem_cons.mpr ⟨fit_199, List.forall_mem_cons.mpr ⟨fit_200, List.forall_mem_cons.mpr ⟨fit_201, List.forall_mem_cons.mpr ⟨fit_202, List.forall_mem_cons.mpr ⟨fit_203, List.forall_mem_cons.mpr ⟨fit_204, List.forall_mem_cons.mpr ⟨fit_205, List.forall_mem_cons.mpr ⟨fit_206, List.forall_mem_cons.mpr ⟨fit_207, fun _ h => absurd h List.not_mem_nil⟩⟩⟩⟩⟩⟩⟩⟩⟩⟩⟩⟩⟩⟩⟩⟩
theorem fitc_13 : ∀ a ∈ [208, 209, 210, 211, 212, 213, 214, 215, 216, 217, 218, 219, 220, 221, 222, 223], FIT a := List.forall_mem_cons.mpr ⟨fit_208, List.forall_mem_cons.mpr ⟨fit_209, List.forall_mem_cons.mpr ⟨fit_210, List.forall_mem_cons.mpr ⟨fit_211, List.forall_mem_cons.mpr ⟨fit_212, List.forall_mem_cons.mpr ⟨fit_213, List.forall_mem_cons.mpr ⟨fit_214, List.forall_mem_cons.mpr ⟨fit_215, List.forall_mem_cons.mpr ⟨fit_216, List.forall_mem_cons.mpr ⟨fit_217, List.forall_mem_cons.mpr ⟨fit_218, List.forall_mem_cons.mpr ⟨fit_219, List.forall_mem_cons.mpr ⟨fit_220, List.forall_mem_cons.mpr ⟨fit_221, List.forall_mem_cons.mpr ⟨fit_222, List.forall_mem_cons.mpr ⟨fit_223, fun _ h => absurd h List.not_mem_nil⟩⟩⟩⟩⟩⟩⟩⟩⟩⟩⟩⟩⟩⟩⟩⟩
theorem fitc_14 : ∀ a ∈ [224, 225, 226, 227, 228, 229, 230, 231, 232, 233, 234, 235, 236, 237, 238, 239], FIT a := List.forall_mem_cons.mpr ⟨fit_224, List.forall_mem_cons.mpr ⟨fit_225, List.forall_mem_cons.mpr ⟨fit_226, List.forall_mem_cons.mpr ⟨fit_227, List.forall_mem_cons.mpr ⟨fit_228, List.forall_mem_cons.mpr ⟨fit_229, List.forall_mem_cons.mpr ⟨fit_230, List.forall_mem_cons.mpr ⟨fit_231, List.forall_mem_cons.mpr ⟨fit_232, List.forall_mem_cons.mpr ⟨fit_233, List.forall_mem_cons.mpr ⟨fit_234, List.forall_mem_cons.mpr ⟨fit_235, List.forall_mem_cons.mpr ⟨fit_236, List.forall_mem_cons.mpr ⟨fit_237, List.forall_mem_cons.mpr ⟨fit_238, List.forall_mem_cons.mpr ⟨fit_239, fun _ h => absurd h List.not_mem_nil⟩⟩⟩⟩⟩⟩⟩⟩⟩⟩⟩⟩⟩⟩⟩⟩
theorem fitc_15 : ∀ a ∈ [240, 241, 242, 243, 244, 245, 246, 247, 248, 249, 250, 251, 252, 253, 254, 255], FIT a := List.forall_mem_cons.mpr ⟨fit_240, List.forall_mem_cons.mpr ⟨fit_241, List.forall_mem_cons.mpr ⟨fit_242, List.forall_mem_cons.mpr ⟨fit_243, List.forall_mem_cons.mpr ⟨fit_244, List.forall_mem_cons.mpr ⟨fit_245, List.forall_mem_cons.mpr ⟨fit_246, List.forall_mem_cons.mpr ⟨fit_247, List.forall_mem_cons.mpr ⟨fit_248, List.forall_mem_cons.mpr ⟨fit_249, List.forall_mem_cons.mpr ⟨fit_250, List.forall_mem_cons.mpr ⟨fit_251, List.forall_mem_cons.mpr ⟨fit_252, List.forall_mem_cons.mpr ⟨fit_253, List.forall_mem_cons.mpr ⟨fit_254, List.forall_mem_cons.mpr ⟨fit_255, fun _ h => absurd h List.not_mem_nil⟩⟩⟩⟩⟩⟩⟩⟩⟩⟩⟩⟩⟩⟩⟩⟩
theorem fitc_16 : ∀ a ∈ [256, 257, 258, 259, 260, 261, 262, 263, 264, 265, 266, 267, 268, 269, 270, 271], FIT a := List.forall_mem_cons.mpr ⟨fit_256, List.forall_mem_cons.mpr ⟨fit_257, List.forall_mem_cons.mpr ⟨fit_258, List.forall_mem_cons.mpr ⟨fit_259, List.forall_mem_cons.mpr ⟨fit_260, List.forall_mem_cons.mpr ⟨fit_261, List.forall_mem_cons.mpr ⟨fit_262, List.forall_mem_cons.mpr ⟨fit_263, List.forall_mem_cons.mpr ⟨fit_264, List.forall_mem_cons.mpr ⟨fit_265, List.forall_mem_cons.mpr ⟨fit_266, List.forall_mem_cons.mpr ⟨fit_267, List.forall_mem_cons.mpr ⟨fit_268, List.forall_mem_cons.mpr ⟨fit_269, List.forall_mem_cons.mpr ⟨fit_270, List.forall_mem_cons.mpr ⟨fit_271, fun _ h => absurd h List.not_mem_nil⟩⟩⟩⟩⟩⟩⟩⟩⟩⟩⟩⟩⟩⟩⟩⟩
theorem fitc_17 : ∀ a ∈ [272, 273, 274, 275, 276, 277, 278, 279, 280, 281, 282, 283, 284, 285, 286, 287], FIT a := List.forall_mem_cons.mpr ⟨fit_272, List.forall_mem_cons.mpr ⟨fit_273, List.forall_mem_cons.mpr ⟨fit_274, List.forall_mem_cons.mpr ⟨fit_275, List.forall_mem_cons.mpr ⟨fit_276, List.forall_mem_cons.mpr ⟨fit_277, List.forall_mem_cons.mpr ⟨fit_278, List.forall_mem_cons.mpr ⟨fit_279, List.forall_mem_cons.mpr ⟨fit_280, List.forall_mem_cons.mpr ⟨fit_281, List.forall_mem_cons.mpr ⟨fit_282, List.forall_mem_cons.mpr ⟨fit_283, List.forall_mem_cons.mpr ⟨fit_284, List.forall_mem_cons.mpr ⟨fit_285, List.forall_mem_cons.mpr ⟨fit_286, List.forall_mem_cons.mpr ⟨fit_287, fun _ h => absurd h List.not_mem_nil⟩⟩⟩⟩⟩⟩⟩⟩⟩⟩⟩⟩⟩⟩⟩⟩
theorem fitc_18 : ∀ a ∈ [288], FIT a := List.forall_mem_cons.mpr ⟨fit_288, fun _ h => absurd h List.not_mem_nil⟩
theorem fit_all : ∀ a ∈ List.range 289, FIT a := by
  have e : List.range 289 = [0, 1, 2, 3, 4, 5, 6, 7, 8, 9, 10, 11, 12, 13, 14, 15] ++ ([16, 17, 18, 19, 20, 21, 22, 23, 24, 25, 26, 27, 28, 29, 30, 31] ++ ([32, 33, 34, 35, 36, 37, 38, 39, 40, 41, 42, 43, 44, 45, 46, 47] ++ ([48, 49, 50, 51, 52, 53, 54, 55, 56, 57, 58, 59, 60, 61, 62, 63] ++ ([64, 65, 66, 67, 68, 69, 70, 71, 72, 73, 74, 75, 76, 77, 78, 79] ++ ([80, 81, 82, 83, 84, 85, 86, 87, 88, 89, 90, 91, 92, 93, 94, 95] ++ ([96, 97, 98, 99, 100, 101, 102, 103, 104, 105, 106, 107, 108, 109, 110, 111] ++ ([112, 113, 114, 115, 116, 117, 118, 119, 120, 121, 122, 123, 124, 125, 126, 127] ++ ([128, 129, 130, 131, 132, 133, 134, 135, 136, 137, 138, 139, 140, 141, 142, 143] ++ ([144, 145, 146, 147, 148, 149, 150, 151, 152, 153, 154, 155, 156, 157, 158, 159] ++ ([160, 161, 162, 163, 164, 165, 166, 167, 168, 169, 170, 171, 172, 173, 174, 175] ++ ([176, 177, 178, 179, 180, 181, 182, 183, 184, 185, 186, 187, 188, 189, 190, 191] ++ ([192, 193, 194, 195, 196, 197, 198, 199, 200, 201, 202, 203, 204, 205, 206, 207] ++ ([208, 209, 210, 211, 212, 213, 214, 215, 216, 217, 218, 219, 220, 221, 222, 223] ++ ([224, 225, 226, 227, 228, 229, 230, 231, 232, 233, 234, 235, 236, 237, 238, 239] ++ ([240, 241, 242, 243, 244, 245, 246, 247, 248, 249, 250, 251, 252, 253, 254, 255] ++ ([256, 257, 258, 259, 260, 261, 262, 263, 264, 265, 266, 267, 268, 269, 270, 271] ++ ([272, 273, 274, 275, 276, 277, 278, 279, 280, 281, 282, 283, 284, 285, 286, 287] ++ ([288])))))))))))))))))) := by decide +kernel
  rw [e]
  exact List.forall_mem_append.mpr ⟨fitc_0, List.forall_mem_append.mpr ⟨fitc_1, List.forall_mem_append.mpr ⟨fitc_2, List.forall_mem_append.mpr ⟨fitc_3, List.forall_mem_append.mpr ⟨fitc_4, List.forall_mem_append.mpr ⟨fitc_5, List.forall_mem_append.mpr ⟨fitc_6, List.forall_mem_append.mpr ⟨fitc_7, List.forall_mem_append.mpr ⟨fitc_8, List.forall_mem_append.mpr ⟨fitc_9, List.forall_mem_append.mpr ⟨fitc_10, List.forall_mem_append.mpr ⟨fitc_11, List.forall_mem_append.mpr ⟨fitc_12, List.forall_mem_append.mpr ⟨fitc_13, List.forall_mem_append.mpr ⟨fitc_14, List.forall_mem_append.mpr ⟨fitc_15, List.forall_mem_append.mpr ⟨fitc_16, List.forall_mem_append.mpr ⟨fitc_17, fitc_18⟩⟩⟩⟩⟩⟩⟩⟩⟩⟩⟩⟩⟩⟩⟩⟩⟩⟩

theorem kV_X12_171 : lkV RX12 171 yX11_find cX11_find 4 (some .int) 1 = true := lkV_of 6 209 6 210 (lkM_of 6 208 6 211 1 20 rfl rfl rfl (by decide +kernel) (by decide +kernel) (by decide)) rfl rfl
theorem kV_X12_190 : lkV RX12 190 yX12_known cX12_known 3 (some .int) 1 = true := lkV_of 6 231 0 49 (lkM_of 6 229 6 232 1 12 rfl rfl rfl (by decide +kernel) (by decide +kernel) (by decide)) rfl rfl
theorem kV_X12_193 : lkV RX12 193 yX12_readLine cX12_readLine 1 none 0 = true := lkV_of 6 162 0 38 (lkM_of 6 160 6 163 1 12 rfl rfl rfl (by decide +kernel) (by decide +kernel) (by decide)) rfl rfl
theorem kV_X12_202 : lkV RX12 202 yX12_readPlace cX12_readPlace 1 none 0 = true := lkV_of 6 176 0 40 (lkM_of 6 174 6 177 1 12 rfl rfl rfl (by decide +kernel) (by decide +kernel) (by decide)) rfl rfl
theorem kV_X12_205 : lkV RX12 205 yX12_readGoods cX12_readGoods 1 none 0 = true := lkV_of 6 214 0 45 (lkM_of 6 212 6 215 1 12 rfl rfl rfl (by decide +kernel) (by decide +kernel) (by decide)) rfl rfl
theorem kV_X12_208 : lkV RX12 208 yX12_readMan cX12_readMan 3 none 0 = true := lkV_of 6 218 0 46 (lkM_of 6 216 6 219 1 12 rfl rfl rfl (by decide +kernel) (by decide +kernel) (by decide)) rfl rfl
theorem kV_X12_211 : lkV RX12 211 yX12_readRoad cX12_readRoad 1 none 0 = true := lkV_of 7 3 0 51 (lkM_of 7 1 7 4 1 12 rfl rfl rfl (by decide +kernel) (by decide +kernel) (by decide)) rfl rfl
theorem kV_X12_214 : lkV RX12 214 yX12_readBridge cX12_readBridge 1 none 0 = true := lkV_of 7 16 0 54 (lkM_of 7 14 7 17 1 12 rfl rfl rfl (by decide +kernel) (by decide +kernel) (by decide)) rfl rfl
theorem kV_X12_217 : lkV RX12 217 yX12_readTake cX12_readTake 4 none 0 = true := lkV_of 7 21 0 55 (lkM_of 7 19 7 22 1 12 rfl rfl rfl (by decide +kernel) (by decide +kernel) (by decide)) rfl rfl
theorem kV_X12_220 : lkV RX12 220 yX12_readFree cX12_readFree 5 none 0 = true := lkV_of 7 41 0 59 (lkM_of 7 39 7 42 1 12 rfl rfl rfl (by decide +kernel) (by decide +kernel) (by decide)) rfl rfl
theorem kV_X12_223 : lkV RX12 223 yX12_readAlike cX12_readAlike 4 none 0 = true := lkV_of 7 49 0 60 (lkM_of 7 47 7 50 1 12 rfl rfl rfl (by decide +kernel) (by decide +kernel) (by decide)) rfl rfl
theorem kV_X12_226 : lkV RX12 226 yX12_readRenewal cX12_readRenewal 4 none 0 = true := lkV_of 7 54 0 61 (lkM_of 7 52 7 55 1 12 rfl rfl rfl (by decide +kernel) (by decide +kernel) (by decide)) rfl rfl
theorem kV_X12_229 : lkV RX12 229 yX12_readLoss cX12_readLoss 3 none 0 = true := lkV_of 7 61 0 62 (lkM_of 7 59 7 62 1 12 rfl rfl rfl (by decide +kernel) (by decide +kernel) (by decide)) rfl rfl
theorem kV_X12_232 : lkV RX12 232 yX12_readLaw cX12_readLaw 5 none 0 = true := lkV_of 7 65 0 63 (lkM_of 7 63 7 66 1 12 rfl rfl rfl (by decide +kernel) (by decide +kernel) (by decide)) rfl rfl
theorem kV_X12_235 : lkV RX12 235 yX12_readCart cX12_readCart 9 none 0 = true := lkV_of 7 80 0 65 (lkM_of 7 78 7 81 1 12 rfl rfl rfl (by decide +kernel) (by decide +kernel) (by decide)) rfl rfl
theorem kV_X12_238 : lkV RX12 238 yX12_begins cX12_begins 3 none 2 = true := lkV_of 6 180 0 41 (lkM_of 6 178 6 181 1 12 rfl rfl rfl (by decide +kernel) (by decide +kernel) (by decide)) rfl rfl
theorem kV_X12_242 : lkV RX12 242 yX12_readFresh cX12_readFresh 3 none 2 = true := lkV_of 6 188 0 43 (lkM_of 6 186 6 189 1 12 rfl rfl rfl (by decide +kernel) (by decide +kernel) (by decide)) rfl rfl
theorem kV_X12_252 : lkV RX12 252 yX12_needs cX12_needs 2 none 1 = true := lkV_of 6 223 0 47 (lkM_of 6 221 6 224 1 12 rfl rfl rfl (by decide +kernel) (by decide +kernel) (by decide)) rfl rfl
theorem kV_X12_256 : lkV RX12 256 yX12_readKnown cX12_readKnown 3 (some .int) 1 = true := lkV_of 6 227 0 48 (lkM_of 6 225 6 228 1 12 rfl rfl rfl (by decide +kernel) (by decide +kernel) (by decide)) rfl rfl
theorem kV_X12_261 : lkV RX12 261 yX12_readWhole cX12_readWhole 4 (some .int) 2 = true := lkV_of 6 236 0 50 (lkM_of 6 234 6 237 1 12 rfl rfl rfl (by decide +kernel) (by decide +kernel) (by decide)) rfl rfl
theorem kV_X12_271 : lkV RX12 271 yX12_readOther cX12_readOther 3 (some .int) 1 = true := lkV_of 7 11 0 53 (lkM_of 7 9 7 12 1 12 rfl rfl rfl (by decide +kernel) (by decide +kernel) (by decide)) rfl rfl
theorem kV_X12_294 : lkV RX12 294 yX12_readEdge cX12_readEdge 5 none 1 = true := lkV_of 7 7 0 52 (lkM_of 7 5 7 8 1 12 rfl rfl rfl (by decide +kernel) (by decide +kernel) (by decide)) rfl rfl
theorem kV_X12_302 : lkV RX12 302 yX12_eats cX12_eats 3 (some .boolean) 1 = true := lkV_of 7 31 0 57 (lkM_of 7 29 7 32 1 12 rfl rfl rfl (by decide +kernel) (by decide +kernel) (by decide)) rfl rfl
theorem kV_X12_319 : lkV RX12 319 yX12_readGood cX12_readGood 1 (some .int) 0 = true := lkV_of 7 27 0 56 (lkM_of 7 25 7 28 1 12 rfl rfl rfl (by decide +kernel) (by decide +kernel) (by decide)) rfl rfl
theorem kV_X12_324 : lkV RX12 324 yX12_readDay cX12_readDay 4 none 1 = true := lkV_of 7 36 0 58 (lkM_of 7 34 7 37 1 12 rfl rfl rfl (by decide +kernel) (by decide +kernel) (by decide)) rfl rfl
theorem kV_X12_378 : lkV RX12 378 yX12_readEither cX12_readEither 4 (some .boolean) 2 = true := lkV_of 7 71 0 64 (lkM_of 7 69 7 72 1 12 rfl rfl rfl (by decide +kernel) (by decide +kernel) (by decide)) rfl rfl
theorem kV_X12_469 : lkV RX12 469 yX12_renewalOf cX12_renewalOf 5 (some .int) 2 = true := lkV_of 7 143 0 77 (lkM_of 7 141 7 144 1 12 rfl rfl rfl (by decide +kernel) (by decide +kernel) (by decide)) rfl rfl
theorem kV_X12_472 : lkV RX12 472 yX12_howOf cX12_howOf 2 (some .int) 1 = true := lkV_of 7 147 0 78 (lkM_of 7 145 7 148 1 12 rfl rfl rfl (by decide +kernel) (by decide +kernel) (by decide)) rfl rfl
theorem kV_X12_478 : lkV RX12 478 yX12_inForce cX12_inForce 3 (some .boolean) 2 = true := lkV_of 7 135 0 75 (lkM_of 7 133 7 136 1 12 rfl rfl rfl (by decide +kernel) (by decide +kernel) (by decide)) rfl rfl
theorem kV_X12_482 : lkV RX12 482 yX12_isReached cX12_isReached 3 (some .boolean) 1 = true := lkV_of 7 159 0 81 (lkM_of 7 157 7 160 1 12 rfl rfl rfl (by decide +kernel) (by decide +kernel) (by decide)) rfl rfl
theorem kV_X12_485 : lkV RX12 485 yX12_goodsOf cX12_goodsOf 3 (some .int) 2 = true := lkV_of 7 139 0 76 (lkM_of 7 137 7 140 1 12 rfl rfl rfl (by decide +kernel) (by decide +kernel) (by decide)) rfl rfl
theorem kV_X12_488 : lkV RX12 488 yX12_dayBy cX12_dayBy 4 (some .int) 2 = true := lkV_of 7 167 0 83 (lkM_of 7 165 7 168 1 12 rfl rfl rfl (by decide +kernel) (by decide +kernel) (by decide)) rfl rfl
theorem kV_X12_491 : lkV RX12 491 yX12_reach cX12_reach 6 none 2 = true := lkV_of 7 155 0 80 (lkM_of 7 153 7 156 1 12 rfl rfl rfl (by decide +kernel) (by decide +kernel) (by decide)) rfl rfl
theorem kV_X12_494 : lkV RX12 494 yX12_beats cX12_beats 12 (some .boolean) 5 = true := lkV_of 7 163 0 82 (lkM_of 7 161 7 164 1 12 rfl rfl rfl (by decide +kernel) (by decide +kernel) (by decide)) rfl rfl
theorem kV_X12_498 : lkV RX12 498 yX12_winner cX12_winner 8 (some .int) 3 = true := lkV_of 7 151 0 79 (lkM_of 7 149 7 152 1 12 rfl rfl rfl (by decide +kernel) (by decide +kernel) (by decide)) rfl rfl
theorem kV_X12_502 : lkV RX12 502 yX11_isGrant cX11_isGrant 2 (some .boolean) 1 = true := lkV_of 7 186 7 187 (lkM_of 7 185 7 188 1 20 rfl rfl rfl (by decide +kernel) (by decide +kernel) (by decide)) rfl rfl
theorem kV_X12_505 : lkV RX12 505 yX12_isCart cX12_isCart 2 (some .boolean) 1 = true := lkV_of 7 107 0 68 (lkM_of 7 105 7 108 1 12 rfl rfl rfl (by decide +kernel) (by decide +kernel) (by decide)) rfl rfl
theorem kV_X12_508 : lkV RX12 508 yX12_isBridge cX12_isBridge 2 (some .boolean) 1 = true := lkV_of 7 111 0 69 (lkM_of 7 109 7 112 1 12 rfl rfl rfl (by decide +kernel) (by decide +kernel) (by decide)) rfl rfl
theorem kV_X12_511 : lkV RX12 511 yX12_isLaw cX12_isLaw 2 (some .boolean) 1 = true := lkV_of 7 115 0 70 (lkM_of 7 113 7 116 1 12 rfl rfl rfl (by decide +kernel) (by decide +kernel) (by decide)) rfl rfl
theorem kV_X12_514 : lkV RX12 514 yX12_lays cX12_lays 3 none 1 = true := lkV_of 7 123 0 72 (lkM_of 7 121 7 124 1 12 rfl rfl rfl (by decide +kernel) (by decide +kernel) (by decide)) rfl rfl
theorem kV_X12_517 : lkV RX12 517 yX12_names cX12_names 2 none 1 = true := lkV_of 7 127 0 73 (lkM_of 7 125 7 128 1 12 rfl rfl rfl (by decide +kernel) (by decide +kernel) (by decide)) rfl rfl
theorem kV_X12_519 : lkV RX12 519 yX12_refusesOwes cX12_refusesOwes 5 (some .int) 4 = true := lkV_of 7 103 0 67 (lkM_of 7 101 7 104 1 12 rfl rfl rfl (by decide +kernel) (by decide +kernel) (by decide)) rfl rfl
theorem kV_X12_523 : lkV RX12 523 yX12_laysFor cX12_laysFor 3 none 2 = true := lkV_of 7 119 0 71 (lkM_of 7 117 7 120 1 12 rfl rfl rfl (by decide +kernel) (by decide +kernel) (by decide)) rfl rfl
theorem kV_X12_526 : lkV RX12 526 yX12_owed cX12_owed 7 (some .int) 3 = true := lkV_of 7 131 0 74 (lkM_of 7 129 7 132 1 12 rfl rfl rfl (by decide +kernel) (by decide +kernel) (by decide)) rfl rfl
theorem kV_X12_529 : lkV RX12 529 yX12_choices cX12_choices 3 (some .int) 0 = true := lkV_of 7 183 0 84 (lkM_of 7 181 7 184 1 12 rfl rfl rfl (by decide +kernel) (by decide +kernel) (by decide)) rfl rfl
theorem kV_X12_532 : lkV RX12 532 yX12_isGrant cX12_isGrant 2 (some .boolean) 1 = true := lkV_of 7 195 0 85 (lkM_of 7 193 7 196 1 12 rfl rfl rfl (by decide +kernel) (by decide +kernel) (by decide)) rfl rfl
theorem kV_X12_533 : lkV RX12 533 yX12_isPlace cX12_isPlace 2 (some .boolean) 1 = true := lkV_of 7 203 0 86 (lkM_of 7 201 7 204 1 12 rfl rfl rfl (by decide +kernel) (by decide +kernel) (by decide)) rfl rfl
theorem kV_X12_545 : lkV RX12 545 yX12_weighs cX12_weighs 7 none 1 = true := lkV_of 7 219 0 88 (lkM_of 7 217 7 220 1 12 rfl rfl rfl (by decide +kernel) (by decide +kernel) (by decide)) rfl rfl
theorem kV_X12_548 : lkV RX12 548 yX12_arrives cX12_arrives 6 none 1 = true := lkV_of 7 223 0 89 (lkM_of 7 221 7 224 1 12 rfl rfl rfl (by decide +kernel) (by decide +kernel) (by decide)) rfl rfl
theorem kV_X12_551 : lkV RX12 551 yX12_isWalked cX12_isWalked 4 (some .boolean) 2 = true := lkV_of 7 227 0 90 (lkM_of 7 225 7 228 1 12 rfl rfl rfl (by decide +kernel) (by decide +kernel) (by decide)) rfl rfl
theorem kV_X12_554 : lkV RX12 554 yX12_finds cX12_finds 6 (some .boolean) 1 = true := lkV_of 7 215 0 87 (lkM_of 7 213 7 216 1 12 rfl rfl rfl (by decide +kernel) (by decide +kernel) (by decide)) rfl rfl
theorem kV_X12_557 : lkV RX12 557 yX12_lost cX12_lost 2 (some .int) 1 = true := lkV_of 8 7 0 91 (lkM_of 8 5 8 8 1 12 rfl rfl rfl (by decide +kernel) (by decide +kernel) (by decide)) rfl rfl
theorem kV_X12_559 : lkV RX12 559 yX12_coins cX12_coins 3 (some .int) 0 = true := lkV_of 8 16 0 92 (lkM_of 8 14 8 17 1 12 rfl rfl rfl (by decide +kernel) (by decide +kernel) (by decide)) rfl rfl
theorem kV_X12_562 : lkV RX12 562 yX12_swing cX12_swing 8 (some .int) 2 = true := lkV_of 8 28 0 93 (lkM_of 8 26 8 29 1 12 rfl rfl rfl (by decide +kernel) (by decide +kernel) (by decide)) rfl rfl
theorem kV_X12_565 : lkV RX12 565 yX12_denied cX12_denied 2 (some .boolean) 1 = true := lkV_of 8 48 0 94 (lkM_of 8 46 8 49 1 12 rfl rfl rfl (by decide +kernel) (by decide +kernel) (by decide)) rfl rfl
theorem kV_X12_568 : lkV RX12 568 yX12_granted cX12_granted 1 (some .boolean) 0 = true := lkV_of 8 52 0 95 (lkM_of 8 50 8 53 1 12 rfl rfl rfl (by decide +kernel) (by decide +kernel) (by decide)) rfl rfl
theorem kV_X12_60 : lkV RX12 60 yX12_refused cX12_refused 2 (some .int) 1 = true := lkV_of 5 210 0 34 (lkM_of 5 208 5 211 1 12 rfl rfl rfl (by decide +kernel) (by decide +kernel) (by decide)) rfl rfl
theorem kV_X12_65 : lkV RX12 65 yX12_done cX12_done 2 (some .int) 1 = true := lkV_of 7 87 0 66 (lkM_of 7 85 7 88 1 12 rfl rfl rfl (by decide +kernel) (by decide +kernel) (by decide)) rfl rfl
theorem kV_X12_89 : lkV RX12 89 yX12_byteAt cX12_byteAt 2 (some .int) 1 = true := lkV_of 6 147 0 36 (lkM_of 6 145 6 148 1 12 rfl rfl rfl (by decide +kernel) (by decide +kernel) (by decide)) rfl rfl
theorem kV_X2_26 : lkV RX2 26 yX2_indexOf cX2_indexOf 4 (some .int) 1 = true := lkV_of 3 71 3 72 (lkM_of 3 91 3 73 1 4 rfl rfl rfl (by decide +kernel) (by decide +kernel) (by decide)) rfl rfl
theorem kV_X3_49 : lkV RX3 49 yX3_has cX3_has 2 (some .boolean) 1 = true := lkV_of 4 26 4 27 (lkM_of 4 99 4 28 1 10 rfl rfl rfl (by decide +kernel) (by decide +kernel) (by decide)) rfl rfl
theorem kV_X4_102 : lkV RX4 102 yX4_word cX4_word 2 (some .boolean) 1 = true := lkV_of 3 81 0 8 (lkM_of 3 79 3 82 1 3 rfl rfl rfl (by decide +kernel) (by decide +kernel) (by decide)) rfl rfl
theorem kV_X4_106 : lkV RX4 106 yX4_use cX4_use 4 (some .boolean) 2 = true := lkV_of 3 85 0 9 (lkM_of 3 83 3 86 1 3 rfl rfl rfl (by decide +kernel) (by decide +kernel) (by decide)) rfl rfl
theorem kV_X4_111 : lkV RX4 111 yX4_whole cX4_whole 4 (some .boolean) 2 = true := lkV_of 3 99 0 11 (lkM_of 3 97 3 100 1 3 rfl rfl rfl (by decide +kernel) (by decide +kernel) (by decide)) rfl rfl
theorem kV_X4_114 : lkV RX4 114 yX4_keepMan cX4_keepMan 2 (some .boolean) 1 = true := lkV_of 3 103 0 12 (lkM_of 3 101 3 104 1 3 rfl rfl rfl (by decide +kernel) (by decide +kernel) (by decide)) rfl rfl
theorem kV_X4_119 : lkV RX4 119 yX4_differ cX4_differ 1 (some .boolean) 0 = true := lkV_of 3 108 0 13 (lkM_of 3 106 3 109 1 3 rfl rfl rfl (by decide +kernel) (by decide +kernel) (by decide)) rfl rfl
theorem kV_X4_124 : lkV RX4 124 yX4_keepLink cX4_keepLink 3 (some .boolean) 1 = true := lkV_of 3 117 0 15 (lkM_of 3 115 3 118 1 3 rfl rfl rfl (by decide +kernel) (by decide +kernel) (by decide)) rfl rfl
theorem kV_X4_133 : lkV RX4 133 yX4_all cX4_all 1 (some .boolean) 0 = true := lkV_of 3 132 0 17 (lkM_of 3 130 3 133 1 3 rfl rfl rfl (by decide +kernel) (by decide +kernel) (by decide)) rfl rfl
theorem kV_X4_138 : lkV RX4 138 yX4_span cX4_span 2 (some .boolean) 0 = true := lkV_of 3 138 0 18 (lkM_of 3 136 3 139 1 3 rfl rfl rfl (by decide +kernel) (by decide +kernel) (by decide)) rfl rfl
theorem kV_X4_141 : lkV RX4 141 yX4_keepGrant cX4_keepGrant 2 (some .boolean) 1 = true := lkV_of 3 143 0 19 (lkM_of 3 141 3 144 1 3 rfl rfl rfl (by decide +kernel) (by decide +kernel) (by decide)) rfl rfl
theorem kV_X4_148 : lkV RX4 148 yX4_choice cX4_choice 3 (some .boolean) 1 = true := lkV_of 3 149 0 20 (lkM_of 3 147 3 150 1 3 rfl rfl rfl (by decide +kernel) (by decide +kernel) (by decide)) rfl rfl
theorem kV_X4_153 : lkV RX4 153 yX4_tell cX4_tell 2 (some .boolean) 1 = true := lkV_of 3 94 0 10 (lkM_of 3 92 3 95 1 3 rfl rfl rfl (by decide +kernel) (by decide +kernel) (by decide)) rfl rfl
theorem kV_X4_160 : lkV RX4 160 yX4_keepRenewal cX4_keepRenewal 2 (some .boolean) 1 = true := lkV_of 3 155 0 21 (lkM_of 3 153 3 156 1 3 rfl rfl rfl (by decide +kernel) (by decide +kernel) (by decide)) rfl rfl
theorem kV_X4_163 : lkV RX4 163 yX4_keepLoss cX4_keepLoss 2 (some .boolean) 1 = true := lkV_of 3 159 0 22 (lkM_of 3 157 3 160 1 3 rfl rfl rfl (by decide +kernel) (by decide +kernel) (by decide)) rfl rfl
theorem kV_X4_174 : lkV RX4 174 yX4_keepLaw cX4_keepLaw 2 (some .boolean) 1 = true := lkV_of 3 168 0 23 (lkM_of 3 166 3 169 1 3 rfl rfl rfl (by decide +kernel) (by decide +kernel) (by decide)) rfl rfl
theorem kV_X4_185 : lkV RX4 185 yX4_keepCart cX4_keepCart 2 (some .boolean) 1 = true := lkV_of 3 176 0 24 (lkM_of 3 174 3 177 1 3 rfl rfl rfl (by decide +kernel) (by decide +kernel) (by decide)) rfl rfl
theorem kV_X4_194 : lkV RX4 194 yX5_links cX5_links 1 (some .int) 0 = true := lkV_of 3 120 3 121 (lkM_of 3 119 3 122 1 2 rfl rfl rfl (by decide +kernel) (by decide +kernel) (by decide)) rfl rfl
theorem kV_X4_259 : lkV RX4 259 yX4_latest cX4_latest 3 (some .int) 1 = true := lkV_of 3 112 0 14 (lkM_of 3 110 3 113 1 3 rfl rfl rfl (by decide +kernel) (by decide +kernel) (by decide)) rfl rfl
theorem kV_X4_265 : lkV RX4 265 yX4_isName cX4_isName 1 (some .boolean) 0 = true := lkV_of 3 67 0 7 (lkM_of 3 65 3 68 1 3 rfl rfl rfl (by decide +kernel) (by decide +kernel) (by decide)) rfl rfl
theorem kV_X4_268 : lkV RX4 268 yX2_indexOf cX2_indexOf 4 (some .int) 1 = true := lkV_of 3 71 3 72 (lkM_of 3 70 3 73 1 4 rfl rfl rfl (by decide +kernel) (by decide +kernel) (by decide)) rfl rfl
theorem kV_X4_272 : lkV RX4 272 yX2_add cX2_add 5 none 3 = true := lkV_of 3 75 3 76 (lkM_of 3 74 3 77 1 4 rfl rfl rfl (by decide +kernel) (by decide +kernel) (by decide)) rfl rfl
theorem kV_X4_276 : lkV RX4 276 yX2_numberOf cX2_numberOf 6 (some .int) 3 = true := lkV_of 3 88 3 89 (lkM_of 3 87 3 90 1 4 rfl rfl rfl (by decide +kernel) (by decide +kernel) (by decide)) rfl rfl
theorem kV_X4_39 : lkV RX4 39 yX5_clear cX5_clear 1 none 0 = true := lkV_of 2 207 2 208 (lkM_of 2 206 2 209 1 2 rfl rfl rfl (by decide +kernel) (by decide +kernel) (by decide)) rfl rfl
theorem kV_X4_44 : lkV RX4 44 yX2_clear cX2_clear 1 none 0 = true := lkV_of 2 214 2 215 (lkM_of 2 213 2 216 1 4 rfl rfl rfl (by decide +kernel) (by decide +kernel) (by decide)) rfl rfl
theorem kV_X4_48 : lkV RX4 48 yX7_open cX7_open 2 none 1 = true := lkV_of 2 218 2 219 (lkM_of 2 217 2 220 1 5 rfl rfl rfl (by decide +kernel) (by decide +kernel) (by decide)) rfl rfl
theorem kV_X4_52 : lkV RX4 52 yX4_readLine cX4_readLine 4 (some .boolean) 0 = true := lkV_of 2 232 0 2 (lkM_of 2 230 2 233 1 3 rfl rfl rfl (by decide +kernel) (by decide +kernel) (by decide)) rfl rfl
theorem kV_X4_59 : lkV RX4 59 yX4_parting cX4_parting 1 (some .boolean) 0 = true := lkV_of 3 183 0 25 (lkM_of 3 181 3 184 1 3 rfl rfl rfl (by decide +kernel) (by decide +kernel) (by decide)) rfl rfl
theorem kV_X4_65 : lkV RX4 65 yX4_failHere cX4_failHere 2 (some .boolean) 1 = true := lkV_of 3 50 0 3 (lkM_of 3 48 3 51 1 3 rfl rfl rfl (by decide +kernel) (by decide +kernel) (by decide)) rfl rfl
theorem kV_X4_72 : lkV RX4 72 yX4_failAt cX4_failAt 3 (some .boolean) 2 = true := lkV_of 3 54 0 4 (lkM_of 3 52 3 55 1 3 rfl rfl rfl (by decide +kernel) (by decide +kernel) (by decide)) rfl rfl
theorem kV_X4_76 : lkV RX4 76 yX7_advance cX7_advance 8 none 0 = true := lkV_of 2 225 2 226 (lkM_of 3 56 2 227 1 5 rfl rfl rfl (by decide +kernel) (by decide +kernel) (by decide)) rfl rfl
theorem kV_X4_81 : lkV RX4 81 yX7_among cX7_among 7 (some .int) 1 = true := lkV_of 2 236 2 237 (lkM_of 2 235 2 238 1 5 rfl rfl rfl (by decide +kernel) (by decide +kernel) (by decide)) rfl rfl
theorem kV_X4_91 : lkV RX4 91 yX4_landLine cX4_landLine 3 (some .boolean) 2 = true := lkV_of 3 59 0 5 (lkM_of 3 57 3 60 1 3 rfl rfl rfl (by decide +kernel) (by decide +kernel) (by decide)) rfl rfl
theorem kV_X4_94 : lkV RX4 94 yX4_paperLine cX4_paperLine 3 (some .boolean) 2 = true := lkV_of 3 126 0 16 (lkM_of 3 124 3 127 1 3 rfl rfl rfl (by decide +kernel) (by decide +kernel) (by decide)) rfl rfl
theorem kV_X4_97 : lkV RX4 97 yX4_newName cX4_newName 3 (some .boolean) 2 = true := lkV_of 3 63 0 6 (lkM_of 3 61 3 64 1 3 rfl rfl rfl (by decide +kernel) (by decide +kernel) (by decide)) rfl rfl
theorem kV_X5_75 : lkV RX5 75 yX5_has cX5_has 3 (some .boolean) 2 = true := lkV_of 3 206 3 207 (lkM_of 3 234 3 208 1 2 rfl rfl rfl (by decide +kernel) (by decide +kernel) (by decide)) rfl rfl
theorem kV_X6_76 : lkV RX6 76 yX5_hasGrant cX5_hasGrant 2 (some .boolean) 1 = true := lkV_of 3 231 3 232 (lkM_of 3 230 3 233 1 2 rfl rfl rfl (by decide +kernel) (by decide +kernel) (by decide)) rfl rfl
theorem kV_X6_80 : lkV RX6 80 yX6_weigh cX6_weigh 5 none 1 = true := lkV_of 3 236 3 237 (lkM_of 3 235 3 238 1 8 rfl rfl rfl (by decide +kernel) (by decide +kernel) (by decide)) rfl rfl
theorem kV_X6_98 : lkV RX6 98 yX6_renew cX6_renew 5 none 3 = true := lkV_of 4 1 0 28 (lkM_of 3 239 4 2 1 8 rfl rfl rfl (by decide +kernel) (by decide +kernel) (by decide)) rfl rfl
theorem kV_X7_28 : lkV RX7 28 yX7_advance cX7_advance 8 none 0 = true := lkV_of 2 225 2 226 (lkM_of 2 224 2 227 1 5 rfl rfl rfl (by decide +kernel) (by decide +kernel) (by decide)) rfl rfl
theorem kV_X8_18 : lkV RX8 18 yX5_links cX5_links 1 (some .int) 0 = true := lkV_of 3 120 3 121 (lkM_of 4 116 3 122 1 2 rfl rfl rfl (by decide +kernel) (by decide +kernel) (by decide)) rfl rfl
theorem kV_X8_27 : lkV RX8 27 yX0_owedAt cX0_owedAt 4 (some .int) 1 = true := lkV_of 4 37 4 38 (lkM_of 4 117 4 39 1 9 rfl rfl rfl (by decide +kernel) (by decide +kernel) (by decide)) rfl rfl
theorem kV_X8_49 : lkV RX8 49 yX8_farEnd cX8_farEnd 4 (some .int) 3 = true := lkV_of 4 132 4 133 (lkM_of 4 131 4 134 1 7 rfl rfl rfl (by decide +kernel) (by decide +kernel) (by decide)) rfl rfl
theorem kV_X9_28 : lkV RX9 28 yX9_forget cX9_forget 1 none 0 = true := lkV_of 3 186 3 187 (lkM_of 4 126 3 188 1 11 rfl rfl rfl (by decide +kernel) (by decide +kernel) (by decide)) rfl rfl
theorem kV_X9_36 : lkV RX9 36 yX8_nextLink cX8_nextLink 7 (some .int) 2 = true := lkV_of 4 128 4 129 (lkM_of 4 127 4 130 1 7 rfl rfl rfl (by decide +kernel) (by decide +kernel) (by decide)) rfl rfl
theorem kV_X9_45 : lkV RX9 45 yX8_farEnd cX8_farEnd 4 (some .int) 3 = true := lkV_of 4 132 4 133 (lkM_of 4 135 4 134 1 7 rfl rfl rfl (by decide +kernel) (by decide +kernel) (by decide)) rfl rfl
theorem kc_X1_107 : isW (.constant RX1 107 (Int32.ofInt 1000000000)) = true := isW_of 4 120 rfl rfl
theorem kc_X10_171 : isW (.constant RX10 171 (Int32.ofInt (-1000000))) = true := isW_of 4 157 rfl rfl
theorem kc_X12_64 : isW (.constant RX12 64 (Int32.ofInt (-1000000))) = true := isW_of 8 9 rfl rfl
theorem kc_X8_36 : isW (.constant RX8 36 (Int32.ofInt 1000000000)) = true := isW_of 4 118 rfl rfl
theorem kl_X12_77 : isW (.constantLong RX12 77 (Int64.ofInt 32)) = true := isW_of 6 152 rfl rfl
theorem kl_X7_38 : isW (.constantLong RX7 38 (Int64.ofInt 32)) = true := isW_of 2 228 rfl rfl
theorem kl_X7_40 : isW (.constantLong RX7 40 (Int64.ofInt 10)) = true := isW_of 2 229 rfl rfl
theorem ks_X10_226 : isW (.fieldLink RX10 226 "TollBars" "COUNTED" "[I") = true ∨ ∃ host, isW (.fieldLinkNest RX10 226 "TollBars" "COUNTED" "[I" host) = true := Or.inl (isW_of 4 233 rfl rfl)
theorem ks_X4_85 : isW (.fieldLink RX4 85 "TollBars" "ROOM" "[I") = true ∨ ∃ host, isW (.fieldLinkNest RX4 85 "TollBars" "ROOM" "[I" host) = true := Or.inr ⟨"TollBars", isW_of 3 47 rfl rfl⟩
theorem st_X12_134 : (RX12, 134, "place", 39) ∈ sTab := by decide +kernel
theorem st_X12_135 : (RX12, 135, "goods", 17) ∈ sTab := by decide +kernel
theorem st_X12_137 : (RX12, 137, "man", 25) ∈ sTab := by decide +kernel
theorem st_X12_139 : (RX12, 139, "road", 43) ∈ sTab := by decide +kernel
theorem st_X12_141 : (RX12, 141, "bridge", 5) ∈ sTab := by decide +kernel
theorem st_X12_143 : (RX12, 143, "take", 47) ∈ sTab := by decide +kernel
theorem st_X12_145 : (RX12, 145, "free", 14) ∈ sTab := by decide +kernel
theorem st_X12_147 : (RX12, 147, "as", 2) ∈ sTab := by decide +kernel
theorem st_X12_149 : (RX12, 149, "renew", 42) ∈ sTab := by decide +kernel
theorem st_X12_151 : (RX12, 151, "lost", 24) ∈ sTab := by decide +kernel
theorem st_X12_153 : (RX12, 153, "law", 19) ∈ sTab := by decide +kernel
theorem st_X12_155 : (RX12, 155, "cart", 7) ∈ sTab := by decide +kernel
theorem st_X12_157 : (RX12, 157, "all", 1) ∈ sTab := by decide +kernel
theorem st_X12_159 : (RX12, 159, "to", 48) ∈ sTab := by decide +kernel
theorem st_X12_161 : (RX12, 161, "copied", 9) ∈ sTab := by decide +kernel
theorem st_X12_250 : (RX12, 250, "of", 30) ∈ sTab := by decide +kernel
theorem st_X12_259 : (RX12, 259, "since", 46) ∈ sTab := by decide +kernel
theorem st_X12_274 : (RX12, 274, "long", 23) ∈ sTab := by decide +kernel
theorem st_X12_300 : (RX12, 300, "by", 6) ∈ sTab := by decide +kernel
theorem st_X12_305 : (RX12, 305, "day", 12) ∈ sTab := by decide +kernel
theorem st_X12_316 : (RX12, 316, "at", 3) ∈ sTab := by decide +kernel
theorem st_X12_317 : (RX12, 317, "on", 33) ∈ sTab := by decide +kernel
theorem st_X12_322 : (RX12, 322, "coin", 8) ∈ sTab := by decide +kernel
theorem st_X12_337 : (RX12, 337, "for", 13) ∈ sTab := by decide +kernel
theorem st_X12_339 : (RX12, 339, "own", 34) ∈ sTab := by decide +kernel
theorem st_X12_341 : (RX12, 341, "trade", 49) ∈ sTab := by decide +kernel
theorem st_X12_343 : (RX12, 343, "both", 4) ∈ sTab := by decide +kernel
theorem st_X12_348 : (RX12, 348, "like", 21) ∈ sTab := by decide +kernel
theorem st_X12_353 : (RX12, 353, "same", 44) ∈ sTab := by decide +kernel
theorem st_X12_355 : (RX12, 355, "more", 26) ∈ sTab := by decide +kernel
theorem st_X12_357 : (RX12, 357, "less", 20) ∈ sTab := by decide +kernel
theorem st_X12_374 : (RX12, 374, "older", 31) ∈ sTab := by decide +kernel
theorem st_X12_376 : (RX12, 376, "later", 18) ∈ sTab := by decide +kernel
theorem st_X12_382 : (RX12, 382, "given", 16) ∈ sTab := by decide +kernel
theorem st_X12_384 : (RX12, 384, "alike", 0) ∈ sTab := by decide +kernel
theorem st_X12_386 : (RX12, 386, "named", 27) ∈ sTab := by decide +kernel
theorem st_X12_388 : (RX12, 388, "papers", 38) ∈ sTab := by decide +kernel
theorem st_X12_390 : (RX12, 390, "copies", 10) ∈ sTab := by decide +kernel
theorem st_X12_408 : (RX12, 408, "with", 50) ∈ sTab := by decide +kernel
theorem st_X12_410 : (RX12, 410, "loads", 22) ∈ sTab := by decide +kernel
theorem st_X12_412 : (RX12, 412, "from", 15) ∈ sTab := by decide +kernel
theorem st_X4_100 : (RX4, 100, "of", 30) ∈ sTab := by decide +kernel
theorem st_X4_109 : (RX4, 109, "since", 46) ∈ sTab := by decide +kernel
theorem st_X4_117 : (RX4, 117, "to", 48) ∈ sTab := by decide +kernel
theorem st_X4_122 : (RX4, 122, "long", 23) ∈ sTab := by decide +kernel
theorem st_X4_127 : (RX4, 127, "by", 6) ∈ sTab := by decide +kernel
theorem st_X4_129 : (RX4, 129, "at", 3) ∈ sTab := by decide +kernel
theorem st_X4_131 : (RX4, 131, "on", 33) ∈ sTab := by decide +kernel
theorem st_X4_136 : (RX4, 136, "coin", 8) ∈ sTab := by decide +kernel
theorem st_X4_144 : (RX4, 144, "for", 13) ∈ sTab := by decide +kernel
theorem st_X4_146 : (RX4, 146, "own trade both", 37) ∈ sTab := by decide +kernel
theorem st_X4_151 : (RX4, 151, "like", 21) ∈ sTab := by decide +kernel
theorem st_X4_156 : (RX4, 156, "same more less", 45) ∈ sTab := by decide +kernel
theorem st_X4_158 : (RX4, 158, "day", 12) ∈ sTab := by decide +kernel
theorem st_X4_166 : (RX4, 166, "older later", 32) ∈ sTab := by decide +kernel
theorem st_X4_168 : (RX4, 168, "own given", 35) ∈ sTab := by decide +kernel
theorem st_X4_170 : (RX4, 170, "named alike", 28) ∈ sTab := by decide +kernel
theorem st_X4_172 : (RX4, 172, "copies papers", 11) ∈ sTab := by decide +kernel
theorem st_X4_177 : (RX4, 177, "with", 50) ∈ sTab := by decide +kernel
theorem st_X4_179 : (RX4, 179, "own trade", 36) ∈ sTab := by decide +kernel
theorem st_X4_181 : (RX4, 181, "loads", 22) ∈ sTab := by decide +kernel
theorem st_X4_183 : (RX4, 183, "from", 15) ∈ sTab := by decide +kernel
theorem st_X4_240 : (RX4, 240, "copied", 9) ∈ sTab := by decide +kernel
theorem st_X4_254 : (RX4, 254, "all", 1) ∈ sTab := by decide +kernel
theorem st_X4_263 : (RX4, 263, "place goods man road bridge take free as renew lost law cart all to copied", 41) ∈ sTab := by decide +kernel
theorem st_X4_79 : (RX4, 79, "place goods man road bridge take free as renew lost law cart", 40) ∈ sTab := by decide +kernel
theorem kA1 : isW (.native arraycopyName) = true := by decide +kernel
theorem kA2 : isW (.static arraycopyName) = true := by decide +kernel
theorem kA3 : isW (.initialized "java/lang/System") = true := by decide +kernel

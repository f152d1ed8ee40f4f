/-! ===== the law's calls ===== -/
theorem kwl_X11_hear : KwV RL 13 RX11 yX11_hear cX11_hear 4 (some .int) 2 := ⟨mem_wsV wd_2_212 wd_2_213 wd_2_214 wd_1_1 wd_2_215, rfl, ⟨by decide +kernel, by decide +kernel, by decide +kernel⟩, by decide⟩
theorem kwl_X12_hear : KwV RL 17 RX12 yX12_hear cX12_hear 4 (some .int) 2 := ⟨mem_wsV wd_5_64 wd_5_65 wd_5_66 wd_1_19 wd_5_67, rfl, ⟨by decide +kernel, by decide +kernel, by decide +kernel⟩, by decide⟩
theorem kwl_X11_heard : KwV RL 18 RX11 yX11_heard cX11_heard 1 (some .int) 0 := ⟨mem_wsV wd_2_236 wd_2_237 wd_2_238 wd_1_1 wd_2_239, rfl, ⟨by decide +kernel, by decide +kernel, by decide +kernel⟩, by decide⟩
theorem kwl_X12_heard : KwV RL 22 RX12 yX12_heard cX12_heard 1 (some .int) 0 := ⟨mem_wsV wd_5_80 wd_5_81 wd_5_82 wd_1_19 wd_5_83, rfl, ⟨by decide +kernel, by decide +kernel, by decide +kernel⟩, by decide⟩
theorem kwl_X11_world : KwV RL 23 RX11 yX11_world cX11_world 3 (some .int) 1 := ⟨mem_wsV wd_3_3 wd_3_4 wd_3_5 wd_1_1 wd_3_6, rfl, ⟨by decide +kernel, by decide +kernel, by decide +kernel⟩, by decide⟩
theorem kwl_X12_world : KwV RL 27 RX12 yX12_world cX12_world 3 (some .int) 1 := ⟨mem_wsV wd_5_88 wd_5_89 wd_5_90 wd_1_19 wd_5_91, rfl, ⟨by decide +kernel, by decide +kernel, by decide +kernel⟩, by decide⟩
theorem kwl_X11_trust : KwV RL 28 RX11 yX11_trust cX11_trust 3 (some .int) 1 := ⟨mem_wsV wd_3_7 wd_3_8 wd_3_9 wd_1_1 wd_3_10, rfl, ⟨by decide +kernel, by decide +kernel, by decide +kernel⟩, by decide⟩
theorem kwl_X12_trust : KwV RL 31 RX12 yX12_trust cX12_trust 3 (some .int) 1 := ⟨mem_wsV wd_5_92 wd_5_93 wd_5_94 wd_1_19 wd_5_95, rfl, ⟨by decide +kernel, by decide +kernel, by decide +kernel⟩, by decide⟩
theorem kwl_X11_rider : KwV RL 32 RX11 yX11_rider cX11_rider 3 (some .int) 1 := ⟨mem_wsV wd_3_11 wd_3_12 wd_3_13 wd_1_1 wd_3_14, rfl, ⟨by decide +kernel, by decide +kernel, by decide +kernel⟩, by decide⟩
theorem kwl_X12_rider : KwV RL 35 RX12 yX12_rider cX12_rider 3 (some .int) 1 := ⟨mem_wsV wd_5_96 wd_5_97 wd_5_98 wd_1_19 wd_5_99, rfl, ⟨by decide +kernel, by decide +kernel, by decide +kernel⟩, by decide⟩
theorem kwl_X11_ofRider : KwV RL 36 RX11 yX11_ofRider cX11_ofRider 4 (some .int) 2 := ⟨mem_wsV wd_3_19 wd_3_20 wd_3_21 wd_1_1 wd_3_22, rfl, ⟨by decide +kernel, by decide +kernel, by decide +kernel⟩, by decide⟩
theorem kwl_X12_ofRider : KwV RL 39 RX12 yX12_ofRider cX12_ofRider 4 (some .int) 2 := ⟨mem_wsV wd_5_101 wd_5_102 wd_5_103 wd_1_19 wd_5_104, rfl, ⟨by decide +kernel, by decide +kernel, by decide +kernel⟩, by decide⟩
theorem kwl_X11_story : KwV RL 40 RX11 yX11_story cX11_story 4 (some .int) 2 := ⟨mem_wsV wd_3_107 wd_3_108 wd_3_109 wd_1_1 wd_3_110, rfl, ⟨by decide +kernel, by decide +kernel, by decide +kernel⟩, by decide⟩
theorem kwl_X12_story : KwV RL 43 RX12 yX12_story cX12_story 4 (some .int) 2 := ⟨mem_wsV wd_5_195 wd_5_196 wd_5_197 wd_1_19 wd_5_198, rfl, ⟨by decide +kernel, by decide +kernel, by decide +kernel⟩, by decide⟩
theorem kwl_X11_say : KwV RL 44 RX11 yX11_say cX11_say 5 (some .int) 3 := ⟨mem_wsV wd_3_117 wd_3_118 wd_3_119 wd_1_1 wd_3_120, rfl, ⟨by decide +kernel, by decide +kernel, by decide +kernel⟩, by decide⟩
theorem kwl_X12_say : KwV RL 48 RX12 yX12_say cX12_say 5 (some .int) 3 := ⟨mem_wsV wd_5_199 wd_5_200 wd_5_201 wd_1_19 wd_5_202, rfl, ⟨by decide +kernel, by decide +kernel, by decide +kernel⟩, by decide⟩
theorem kwl_X11_become : KwV RL 49 RX11 yX11_become cX11_become 4 (some .int) 2 := ⟨mem_wsV wd_3_121 wd_3_122 wd_3_123 wd_1_1 wd_3_124, rfl, ⟨by decide +kernel, by decide +kernel, by decide +kernel⟩, by decide⟩
theorem kwl_X12_become : KwV RL 52 RX12 yX12_become cX12_become 4 (some .int) 2 := ⟨mem_wsV wd_5_203 wd_5_204 wd_5_205 wd_1_19 wd_5_206, rfl, ⟨by decide +kernel, by decide +kernel, by decide +kernel⟩, by decide⟩
theorem kwl_X11_as : KwV RL 53 RX11 yX11_as cX11_as 4 (some .int) 2 := ⟨mem_wsV wd_3_125 wd_3_126 wd_3_127 wd_1_1 wd_3_128, rfl, ⟨by decide +kernel, by decide +kernel, by decide +kernel⟩, by decide⟩
theorem kwl_X12_as : KwV RL 56 RX12 yX12_as cX12_as 4 (some .int) 2 := ⟨mem_wsV wd_5_207 wd_5_208 wd_5_209 wd_1_19 wd_5_210, rfl, ⟨by decide +kernel, by decide +kernel, by decide +kernel⟩, by decide⟩
theorem kwl_X11_feed : KwV RL 59 RX11 yX11_feed cX11_feed 5 (some .int) 2 := ⟨mem_wsV wd_3_132 wd_3_133 wd_3_134 wd_1_1 wd_3_135, rfl, ⟨by decide +kernel, by decide +kernel, by decide +kernel⟩, by decide⟩
theorem kwl_X12_feed : KwV RL 63 RX12 yX12_feed cX12_feed 5 (some .int) 2 := ⟨mem_wsV wd_5_219 wd_5_220 wd_5_221 wd_1_19 wd_5_222, rfl, ⟨by decide +kernel, by decide +kernel, by decide +kernel⟩, by decide⟩
theorem kwl_X11_text : KwV RL 64 RX11 yX11_text cX11_text 3 (some .int) 1 := ⟨mem_wsV wd_3_136 wd_3_137 wd_3_138 wd_1_1 wd_3_139, rfl, ⟨by decide +kernel, by decide +kernel, by decide +kernel⟩, by decide⟩
theorem kwl_X12_text : KwV RL 67 RX12 yX12_text cX12_text 5 (some .int) 1 := ⟨mem_wsV wd_5_224 wd_5_225 wd_5_226 wd_1_19 wd_5_227, rfl, ⟨by decide +kernel, by decide +kernel, by decide +kernel⟩, by decide⟩
theorem kwl_X11_law : KwV RL 68 RX11 yX11_law cX11_law 5 (some .int) 4 := ⟨mem_wsV wd_3_158 wd_3_159 wd_3_160 wd_1_1 wd_3_161, rfl, ⟨by decide +kernel, by decide +kernel, by decide +kernel⟩, by decide⟩
theorem kwl_X12_law : KwV RL 72 RX12 yX12_law cX12_law 5 (some .int) 4 := ⟨mem_wsV wd_5_215 wd_5_216 wd_5_217 wd_1_19 wd_5_218, rfl, ⟨by decide +kernel, by decide +kernel, by decide +kernel⟩, by decide⟩
theorem kwl_X11_ride : KwV RL 73 RX11 yX11_ride cX11_ride 3 (some .int) 1 := ⟨mem_wsV wd_3_164 wd_3_165 wd_3_166 wd_1_1 wd_3_167, rfl, ⟨by decide +kernel, by decide +kernel, by decide +kernel⟩, by decide⟩
theorem kwl_X12_ride : KwV RL 76 RX12 yX12_ride cX12_ride 2 (some .int) 1 := ⟨mem_wsV wd_5_232 wd_5_233 wd_5_234 wd_1_19 wd_5_235, rfl, ⟨by decide +kernel, by decide +kernel, by decide +kernel⟩, by decide⟩
theorem kwl_X11_days : KwV RL 77 RX11 yX11_days cX11_days 3 (some .int) 1 := ⟨mem_wsV wd_3_181 wd_3_182 wd_3_183 wd_1_1 wd_3_184, rfl, ⟨by decide +kernel, by decide +kernel, by decide +kernel⟩, by decide⟩
theorem kwl_X12_days : KwV RL 80 RX12 yX12_days cX12_days 3 (some .int) 1 := ⟨mem_wsV wd_6_0 wd_6_1 wd_6_2 wd_1_19 wd_6_3, rfl, ⟨by decide +kernel, by decide +kernel, by decide +kernel⟩, by decide⟩
theorem kwl_X11_rumours : KwV RL 81 RX11 yX11_rumours cX11_rumours 5 (some .int) 1 := ⟨mem_wsV wd_3_195 wd_3_196 wd_3_197 wd_1_1 wd_3_198, rfl, ⟨by decide +kernel, by decide +kernel, by decide +kernel⟩, by decide⟩
theorem kwl_X12_rumours : KwV RL 84 RX12 yX12_rumours cX12_rumours 4 (some .int) 1 := ⟨mem_wsV wd_6_9 wd_6_10 wd_6_11 wd_1_19 wd_6_12, rfl, ⟨by decide +kernel, by decide +kernel, by decide +kernel⟩, by decide⟩
theorem kwl_X11_together : KwV RL 85 RX11 yX11_together cX11_together 2 (some .int) 1 := ⟨mem_wsV wd_3_204 wd_3_205 wd_3_206 wd_1_1 wd_3_207, rfl, ⟨by decide +kernel, by decide +kernel, by decide +kernel⟩, by decide⟩
theorem kwl_X12_together : KwV RL 88 RX12 yX12_together cX12_together 2 (some .int) 1 := ⟨mem_wsV wd_6_18 wd_6_19 wd_6_20 wd_1_19 wd_6_21, rfl, ⟨by decide +kernel, by decide +kernel, by decide +kernel⟩, by decide⟩
theorem kwl_X11_bestWith : KwV RL 89 RX11 yX11_bestWith cX11_bestWith 8 (some .int) 2 := ⟨mem_wsV wd_3_213 wd_3_214 wd_3_215 wd_1_1 wd_3_216, rfl, ⟨by decide +kernel, by decide +kernel, by decide +kernel⟩, by decide⟩
theorem kwl_X12_bestWith : KwV RL 92 RX12 yX12_bestWith cX12_bestWith 8 (some .int) 2 := ⟨mem_wsV wd_6_29 wd_6_30 wd_6_31 wd_1_19 wd_6_32, rfl, ⟨by decide +kernel, by decide +kernel, by decide +kernel⟩, by decide⟩
theorem kwl_X11_shortest : KwV RL 93 RX11 yX11_shortest cX11_shortest 3 (some .int) 2 := ⟨mem_wsV wd_3_217 wd_3_218 wd_3_219 wd_1_1 wd_3_220, rfl, ⟨by decide +kernel, by decide +kernel, by decide +kernel⟩, by decide⟩
theorem kwl_X12_shortest : KwV RL 96 RX12 yX12_shortest cX12_shortest 4 (some .int) 2 := ⟨mem_wsV wd_6_33 wd_6_34 wd_6_35 wd_1_19 wd_6_36, rfl, ⟨by decide +kernel, by decide +kernel, by decide +kernel⟩, by decide⟩
theorem kwl_X11_truest : KwV RL 97 RX11 yX11_truest cX11_truest 3 (some .int) 2 := ⟨mem_wsV wd_3_231 wd_3_232 wd_3_233 wd_1_1 wd_3_234, rfl, ⟨by decide +kernel, by decide +kernel, by decide +kernel⟩, by decide⟩
theorem kwl_X12_truest : KwV RL 100 RX12 yX12_truest cX12_truest 4 (some .int) 2 := ⟨mem_wsV wd_6_49 wd_6_50 wd_6_51 wd_1_19 wd_6_52, rfl, ⟨by decide +kernel, by decide +kernel, by decide +kernel⟩, by decide⟩
theorem kwl_X11_out : KwV RL 101 RX11 yX11_out cX11_out 8 (some .int) 2 := ⟨mem_wsV wd_3_235 wd_3_236 wd_3_237 wd_1_1 wd_3_238, rfl, ⟨by decide +kernel, by decide +kernel, by decide +kernel⟩, by decide⟩
theorem kwl_X12_out : KwV RL 104 RX12 yX12_out cX12_out 9 (some .int) 2 := ⟨mem_wsV wd_6_53 wd_6_54 wd_6_55 wd_1_19 wd_6_56, rfl, ⟨by decide +kernel, by decide +kernel, by decide +kernel⟩, by decide⟩
theorem kwl_X11_when : KwV RL 105 RX11 yX11_when cX11_when 5 (some .int) 2 := ⟨mem_wsV wd_3_239 wd_4_0 wd_4_1 wd_1_1 wd_4_2, rfl, ⟨by decide +kernel, by decide +kernel, by decide +kernel⟩, by decide⟩
theorem kwl_X12_when : KwV RL 108 RX12 yX12_when cX12_when 4 (some .int) 2 := ⟨mem_wsV wd_6_57 wd_6_58 wd_6_59 wd_1_19 wd_6_60, rfl, ⟨by decide +kernel, by decide +kernel, by decide +kernel⟩, by decide⟩
theorem kwl_X11_still : KwV RL 109 RX11 yX11_still cX11_still 4 (some .int) 0 := ⟨mem_wsV wd_4_3 wd_4_4 wd_4_5 wd_1_1 wd_4_6, rfl, ⟨by decide +kernel, by decide +kernel, by decide +kernel⟩, by decide⟩
theorem kwl_X12_still : KwV RL 112 RX12 yX12_still cX12_still 3 (some .int) 0 := ⟨mem_wsV wd_6_61 wd_6_62 wd_6_63 wd_1_19 wd_6_64, rfl, ⟨by decide +kernel, by decide +kernel, by decide +kernel⟩, by decide⟩
theorem kwl_X11_then : KwV RL 113 RX11 yX11_then cX11_then 4 (some .int) 1 := ⟨mem_wsV wd_4_7 wd_4_8 wd_4_9 wd_1_1 wd_4_10, rfl, ⟨by decide +kernel, by decide +kernel, by decide +kernel⟩, by decide⟩
theorem kwl_X12_then : KwV RL 116 RX12 yX12_then cX12_then 3 (some .int) 1 := ⟨mem_wsV wd_6_65 wd_6_66 wd_6_67 wd_1_19 wd_6_68, rfl, ⟨by decide +kernel, by decide +kernel, by decide +kernel⟩, by decide⟩
theorem kwl_X11_believed : KwV RL 117 RX11 yX11_believed cX11_believed 8 (some .int) 2 := ⟨mem_wsV wd_4_11 wd_4_12 wd_4_13 wd_1_1 wd_4_14, rfl, ⟨by decide +kernel, by decide +kernel, by decide +kernel⟩, by decide⟩
theorem kwl_X12_believed : KwV RL 120 RX12 yX12_believed cX12_believed 6 (some .int) 2 := ⟨mem_wsV wd_6_69 wd_6_70 wd_6_71 wd_1_19 wd_6_72, rfl, ⟨by decide +kernel, by decide +kernel, by decide +kernel⟩, by decide⟩
theorem kwl_X11_word : KwV RL 121 RX11 yX11_word cX11_word 9 (some .int) 3 := ⟨mem_wsV wd_4_30 wd_4_31 wd_4_32 wd_1_1 wd_4_33, rfl, ⟨by decide +kernel, by decide +kernel, by decide +kernel⟩, by decide⟩
theorem kwl_X12_word : KwV RL 124 RX12 yX12_word cX12_word 8 (some .int) 3 := ⟨mem_wsV wd_6_84 wd_6_85 wd_6_86 wd_1_19 wd_6_87, rfl, ⟨by decide +kernel, by decide +kernel, by decide +kernel⟩, by decide⟩
theorem kwl_X11_seed : KwV RL 125 RX11 yX11_seed cX11_seed 3 (some .int) 1 := ⟨mem_wsV wd_4_42 wd_4_43 wd_4_44 wd_1_1 wd_4_45, rfl, ⟨by decide +kernel, by decide +kernel, by decide +kernel⟩, by decide⟩
theorem kwl_X12_seed : KwV RL 128 RX12 yX12_seed cX12_seed 3 (some .int) 1 := ⟨mem_wsV wd_6_88 wd_6_89 wd_6_90 wd_1_19 wd_6_91, rfl, ⟨by decide +kernel, by decide +kernel, by decide +kernel⟩, by decide⟩
theorem kwl_X11_voice : KwV RL 129 RX11 yX11_voice cX11_voice 5 (some .int) 3 := ⟨mem_wsV wd_4_46 wd_4_47 wd_4_48 wd_1_1 wd_4_49, rfl, ⟨by decide +kernel, by decide +kernel, by decide +kernel⟩, by decide⟩
theorem kwl_X12_voice : KwV RL 132 RX12 yX12_voice cX12_voice 4 (some .int) 3 := ⟨mem_wsV wd_6_92 wd_6_93 wd_6_94 wd_1_19 wd_6_95, rfl, ⟨by decide +kernel, by decide +kernel, by decide +kernel⟩, by decide⟩
theorem kwl_X11_trace : KwV RL 133 RX11 yX11_trace cX11_trace 2 (some .int) 1 := ⟨mem_wsV wd_4_136 wd_4_137 wd_4_138 wd_1_1 wd_4_139, rfl, ⟨by decide +kernel, by decide +kernel, by decide +kernel⟩, by decide⟩
theorem kwl_X12_trace : KwV RL 136 RX12 yX12_trace cX12_trace 2 (some .int) 1 := ⟨mem_wsV wd_6_116 wd_6_117 wd_6_118 wd_1_19 wd_6_119, rfl, ⟨by decide +kernel, by decide +kernel, by decide +kernel⟩, by decide⟩
theorem kwl_X11_sheet : KwV RL 137 RX11 yX11_sheet cX11_sheet 4 (some .int) 3 := ⟨mem_wsV wd_4_140 wd_4_141 wd_4_142 wd_1_1 wd_4_143, rfl, ⟨by decide +kernel, by decide +kernel, by decide +kernel⟩, by decide⟩
theorem kwl_X12_sheet : KwV RL 140 RX12 yX12_sheet cX12_sheet 5 (some .int) 3 := ⟨mem_wsV wd_6_120 wd_6_121 wd_6_122 wd_1_19 wd_6_123, rfl, ⟨by decide +kernel, by decide +kernel, by decide +kernel⟩, by decide⟩
theorem kwl_X11_put : KwV RL 141 RX11 yX11_put cX11_put 5 (some .int) 3 := ⟨mem_wsV wd_4_152 wd_4_153 wd_4_154 wd_1_1 wd_4_155, rfl, ⟨by decide +kernel, by decide +kernel, by decide +kernel⟩, by decide⟩
theorem kwl_X12_put : KwV RL 144 RX12 yX12_put cX12_put 4 (some .int) 3 := ⟨mem_wsV wd_6_124 wd_6_125 wd_6_126 wd_1_19 wd_6_127, rfl, ⟨by decide +kernel, by decide +kernel, by decide +kernel⟩, by decide⟩
theorem kwl_X11_move : KwV RL 145 RX11 yX11_move cX11_move 8 (some .int) 5 := ⟨mem_wsV wd_4_160 wd_4_161 wd_4_162 wd_1_1 wd_4_163, rfl, ⟨by decide +kernel, by decide +kernel, by decide +kernel⟩, by decide⟩
theorem kwl_X12_move : KwV RL 149 RX12 yX12_move cX12_move 7 (some .int) 5 := ⟨mem_wsV wd_6_131 wd_6_132 wd_6_133 wd_1_19 wd_6_134, rfl, ⟨by decide +kernel, by decide +kernel, by decide +kernel⟩, by decide⟩
theorem kwl_X11_stories : KwV RL 150 RX11 yX11_stories cX11_stories 4 (some .int) 1 := ⟨mem_wsV wd_4_169 wd_4_170 wd_4_171 wd_1_1 wd_4_172, rfl, ⟨by decide +kernel, by decide +kernel, by decide +kernel⟩, by decide⟩
theorem kwl_X12_stories : KwV RL 153 RX12 yX12_stories cX12_stories 3 (some .int) 1 := ⟨mem_wsV wd_6_135 wd_6_136 wd_6_137 wd_1_19 wd_6_138, rfl, ⟨by decide +kernel, by decide +kernel, by decide +kernel⟩, by decide⟩
theorem kwl_X11_judge : KwV RL 154 RX11 yX11_judge cX11_judge 4 (some .int) 1 := ⟨mem_wsV wd_4_173 wd_4_174 wd_4_175 wd_1_1 wd_4_176, rfl, ⟨by decide +kernel, by decide +kernel, by decide +kernel⟩, by decide⟩
theorem kwl_X12_judge : KwV RL 157 RX12 yX12_judge cX12_judge 3 (some .int) 1 := ⟨mem_wsV wd_6_139 wd_6_140 wd_6_141 wd_1_19 wd_6_142, rfl, ⟨by decide +kernel, by decide +kernel, by decide +kernel⟩, by decide⟩
theorem kwl_X11_image : KwV RL 158 RX11 yX11_image cX11_image 1 (some .int) 0 := ⟨mem_wsV wd_4_177 wd_4_178 wd_4_179 wd_1_1 wd_4_180, rfl, ⟨by decide +kernel, by decide +kernel, by decide +kernel⟩, by decide⟩
theorem kwl_X12_image : KwV RL 161 RX12 yX12_image cX12_image 1 (some .int) 0 := ⟨mem_wsV wd_6_143 wd_6_144 wd_6_145 wd_1_19 wd_6_146, rfl, ⟨by decide +kernel, by decide +kernel, by decide +kernel⟩, by decide⟩
theorem kwl_X11_restore : KwV RL 162 RX11 yX11_restore cX11_restore 1 (some .int) 0 := ⟨mem_wsV wd_4_190 wd_4_191 wd_4_192 wd_1_1 wd_4_193, rfl, ⟨by decide +kernel, by decide +kernel, by decide +kernel⟩, by decide⟩
theorem kwl_X12_restore : KwV RL 165 RX12 yX12_restore cX12_restore 1 (some .int) 0 := ⟨mem_wsV wd_6_147 wd_6_148 wd_6_149 wd_1_19 wd_6_150, rfl, ⟨by decide +kernel, by decide +kernel, by decide +kernel⟩, by decide⟩
theorem kwl_X11_tell : KwV RL 166 RX11 yX11_tell cX11_tell 2 (some .int) 1 := ⟨mem_wsV wd_4_194 wd_4_195 wd_4_196 wd_1_1 wd_4_197, rfl, ⟨by decide +kernel, by decide +kernel, by decide +kernel⟩, by decide⟩
theorem kwl_X12_tell : KwV RL 169 RX12 yX12_tell cX12_tell 2 (some .int) 1 := ⟨mem_wsV wd_6_151 wd_6_152 wd_6_153 wd_1_19 wd_6_154, rfl, ⟨by decide +kernel, by decide +kernel, by decide +kernel⟩, by decide⟩
theorem kwl_X11_check : KwV RL 170 RX11 yX11_check cX11_check 4 (some .int) 0 := ⟨mem_wsV wd_4_198 wd_4_199 wd_4_200 wd_1_1 wd_4_201, rfl, ⟨by decide +kernel, by decide +kernel, by decide +kernel⟩, by decide⟩
theorem kwl_X12_check : KwV RL 173 RX12 yX12_check cX12_check 4 (some .int) 0 := ⟨mem_wsV wd_6_155 wd_6_156 wd_6_157 wd_1_19 wd_6_158, rfl, ⟨by decide +kernel, by decide +kernel, by decide +kernel⟩, by decide⟩
theorem kwl_X11_count : KwV RL 174 RX11 yX11_count cX11_count 2 (some .int) 1 := ⟨mem_wsV wd_4_202 wd_4_203 wd_4_204 wd_1_1 wd_4_205, rfl, ⟨by decide +kernel, by decide +kernel, by decide +kernel⟩, by decide⟩
theorem kwl_X12_count : KwV RL 177 RX12 yX12_count cX12_count 2 (some .int) 1 := ⟨mem_wsV wd_6_159 wd_6_160 wd_6_161 wd_1_19 wd_6_162, rfl, ⟨by decide +kernel, by decide +kernel, by decide +kernel⟩, by decide⟩
theorem kwl_X11_told : KwV RL 178 RX11 yX11_told cX11_told 2 (some .int) 1 := ⟨mem_wsV wd_4_206 wd_4_207 wd_4_208 wd_1_1 wd_4_209, rfl, ⟨by decide +kernel, by decide +kernel, by decide +kernel⟩, by decide⟩
theorem kwl_X12_told : KwV RL 181 RX12 yX12_told cX12_told 2 (some .int) 1 := ⟨mem_wsV wd_6_167 wd_6_168 wd_6_169 wd_1_19 wd_6_170, rfl, ⟨by decide +kernel, by decide +kernel, by decide +kernel⟩, by decide⟩
theorem kwl_X11_init : KwI RL 9 yX11_init cX11_init 2 0 := ⟨wd_1_25, wd_1_26, wd_1_1, wd_1_27, rfl, ⟨by decide +kernel, by decide +kernel, by decide +kernel⟩, by decide⟩
theorem kwl_X12_init : KwI RL 12 yX12_init cX12_init 1 0 := ⟨wd_4_212, wd_4_213, wd_1_19, wd_4_214, rfl, ⟨by decide +kernel, by decide +kernel, by decide +kernel⟩, by decide⟩
/-- what the class keeps as its image beside what the reference keeps -/
def KO (E : En) (kv : Value) (K RC : va_W) (M : MS) : Prop := (kv = .null ∧ K = [] ∧ M.2 0 = 0) ∨ ∃ (bd P : Nat → Nat) (U : MS) (RDk : RDt), kv = .ref (bd 0) ∧ K = lW E bd P U ∧ M.2 0 = 1 ∧ Lf (M.1 2) RDk U ∧ ∀ q ∈ roL P RDk, q ∈ RC
theorem KO.go {E : En} {kv : Value} {K RC RC2 : va_W} {M M2 : MS} (h : KO E kv K RC M) (hs : ∀ q ∈ RC, q ∈ RC2) (e1 : M2.1 2 = M.1 2) (e2 : M2.2 0 = M.2 0) : KO E kv K RC2 M2 := by
  rcases h with ⟨a, b, c⟩ | ⟨bd, P, U, RDk, a, b, c, d, e⟩
  · exact Or.inl ⟨a, b, e2.trans c⟩
  · exact Or.inr ⟨bd, P, U, RDk, a, b, e2.trans c, by rw [e1]; exact d, fun q hq => hs q (e q hq)⟩
theorem Rel.rk {RD : RDt} {S M : MS} (R : Rel RD S M) : ∀ k, k < 6 → isRk (RD k).1 := fun k hk => by rw [(R.lf.rr k hk).2.2]; exact kcl_rk _
theorem Lf.rk {r : Nat → Int32} {RD : RDt} {S : MS} (L : Lf r RD S) : ∀ k, k < 6 → isRk (RD k).1 := fun k hk => by rw [(L.rr k hk).2.2]; exact kcl_rk _
/-- the way on from a case's end -/
def Go (X : Cx) (b : Nat) (ad md : Nat → Nat) (i ce sl : Nat) : Prop := ∀ (Q : Nat → Nat) (kv : Value) (S M : MS) (K RC : va_W) (RD : RDt), Rel RD S M → (∀ q ∈ roL Q RD, q ∈ RC) → KO X.E kv K RC M → G X 4 (ce + 20) (sl + 2000) 1398 (lvL b (ad 10) (md 0) i) [] (LW X.E ad Q kv S K RC md M)

theorem xo_200 : (xp_200).all (xokA 200) = true := by decide +kernel
theorem xo_201 : (xp_201).all (xokA 201) = true := by decide +kernel
theorem xo_202 : (xp_202).all (xokA 202) = true := by decide +kernel
theorem xo_203 : (xp_203).all (xokA 203) = true := by decide +kernel
theorem xo_204 : (xp_204).all (xokA 204) = true := by decide +kernel
theorem xo_205 : (xp_205).all (xokA 205) = true := by decide +kernel
theorem xo_206 : (xp_206).all (xokA 206) = true := by decide +kernel
theorem xo_207 : (xp_207).all (xokA 207) = true := by decide +kernel
theorem xo_208 : (xp_208).all (xokA 208) = true := by decide +kernel
theorem xo_209 : (xp_209).all (xokA 209) = true := by decide +kernel
theorem xo_210 : (xp_210).all (xokA 210) = true := by decide +kernel
theorem xo_211 : (xp_211).all (xokA 211) = true := by decide +kernel
theorem xo_212 : (xp_212).all (xokA 212) = true := by decide +kernel
theorem xo_213 : (xp_213).all (xokA 213) = true := by decide +kernel
theorem xo_214 : (xp_214).all (xokA 214) = true := by decide +kernel
theorem xo_215 : (xp_215).all (xokA 215) = true := by decide +kernel
theorem xo_216 : (xp_216).all (xokA 216) = true := by decide +kernel
theorem xo_217 : (xp_217).all (xokA 217) = true := by decide +kernel
theorem xo_218 : (xp_218).all (xokA 218) = true := by decide +kernel
theorem xo_219 : (xp_219).all (xokA 219) = true := by decide +kernel
theorem xo_220 : (xp_220).all (xokA 220) = true := by decide +kernel
theorem xo_221 : (xp_221).all (xokA 221) = true := by decide +kernel
theorem xo_222 : (xp_222).all (xokA 222) = true := by decide +kernel
theorem xo_223 : (xp_223).all (xokA 223) = true := by decide +kernel
theorem xo_224 : (xp_224).all (xokA 224) = true := by decide +kernel
theorem xo_225 : (xp_225).all (xokA 225) = true := by decide +kernel
theorem xo_226 : (xp_226).all (xokA 226) = true := by decide +kernel
theorem xo_227 : (xp_227).all (xokA 227) = true := by decide +kernel
theorem xo_228 : (xp_228).all (xokA 228) = true := by decide +kernel
theorem xo_229 : (xp_229).all (xokA 229) = true := by decide +kernel
theorem xo_230 : (xp_230).all (xokA 230) = true := by decide +kernel
theorem xo_231 : (xp_231).all (xokA 231) = true := by decide +kernel
theorem xo_232 : (xp_232).all (xokA 232) = true := by decide +kernel
theorem xo_233 : (xp_233).all (xokA 233) = true := by decide +kernel
theorem xo_234 : (xp_234).all (xokA 234) = true := by decide +kernel
theorem xo_235_0 : (((xp_235).drop 0).take 50).all (xokA 235) = true := by decide +kernel
theorem xo_235_1 : (((xp_235).drop 50).take 50).all (xokA 235) = true := by decide +kernel
theorem xo_235_2 : (((xp_235).drop 100).take 50).all (xokA 235) = true := by decide +kernel
theorem xo_235_3 : (((xp_235).drop 150).take 50).all (xokA 235) = true := by decide +kernel
theorem xo_235_4 : (((xp_235).drop 200).take 50).all (xokA 235) = true := by decide +kernel
theorem xo_235_5 : (((xp_235).drop 250).take 50).all (xokA 235) = true := by decide +kernel
theorem xo_235_6 : (((xp_235).drop 300).take 50).all (xokA 235) = true := by decide +kernel
theorem xo_235_7 : (((xp_235).drop 350).take 50).all (xokA 235) = true := by decide +kernel
theorem xo_235_8 : (((xp_235).drop 400).take 50).all (xokA 235) = true := by decide +kernel
theorem xo_235_9 : (((xp_235).drop 450).take 50).all (xokA 235) = true := by decide +kernel
theorem xo_235_10 : (((xp_235).drop 500).take 50).all (xokA 235) = true := by decide +kernel
theorem xo_235_11 : (((xp_235).drop 550).take 50).all (xokA 235) = true := by decide +kernel
theorem xo_235_12 : (((xp_235).drop 600).take 50).all (xokA 235) = true := by decide +kernel
theorem xo_235_13 : (((xp_235).drop 650).take 50).all (xokA 235) = true := by decide +kernel
theorem xo_235_14 : (((xp_235).drop 700).take 50).all (xokA 235) = true := by decide +kernel
theorem xo_235_15 : (((xp_235).drop 750).take 50).all (xokA 235) = true := by decide +kernel
theorem xo_235_16 : (((xp_235).drop 800).take 50).all (xokA 235) = true := by decide +kernel
theorem xo_235_17 : (((xp_235).drop 850).take 50).all (xokA 235) = true := by decide +kernel
theorem xo_235_18 : (((xp_235).drop 900).take 50).all (xokA 235) = true := by decide +kernel
theorem xo_235_19 : (((xp_235).drop 950).take 50).all (xokA 235) = true := by decide +kernel
theorem xo_235_20 : (((xp_235).drop 1000).take 50).all (xokA 235) = true := by decide +kernel
theorem xo_235_21 : (((xp_235).drop 1050).take 50).all (xokA 235) = true := by decide +kernel
theorem xo_235 : (xp_235).all (xokA 235) = true := by
  refine xchunk _ 22 _ (fun k hk => ?_) (by decide +kernel)
  match k, hk with
  | 0, _ => exact xo_235_0
  | 1, _ => exact xo_235_1
  | 2, _ => exact xo_235_2
  | 3, _ => exact xo_235_3
  | 4, _ => exact xo_235_4
  | 5, _ => exact xo_235_5
  | 6, _ => exact xo_235_6
  | 7, _ => exact xo_235_7
  | 8, _ => exact xo_235_8
  | 9, _ => exact xo_235_9
  | 10, _ => exact xo_235_10
  | 11, _ => exact xo_235_11
  | 12, _ => exact xo_235_12
  | 13, _ => exact xo_235_13
  | 14, _ => exact xo_235_14
  | 15, _ => exact xo_235_15
  | 16, _ => exact xo_235_16
  | 17, _ => exact xo_235_17
  | 18, _ => exact xo_235_18
  | 19, _ => exact xo_235_19
  | 20, _ => exact xo_235_20
  | 21, _ => exact xo_235_21
  | j + 22, h => exact absurd h (by omega)

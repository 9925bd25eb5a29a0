theorem ck_221_0 : mchR 221 0 64 = true := by decide +kernel
theorem ck_221_1 : mchR 221 64 64 = true := by decide +kernel
theorem ck_221_2 : mchR 221 128 64 = true := by decide +kernel
theorem ck_221 : mchA 221 := mchA_of (n := 179) (l := [0, 1, 2]) (by decide +kernel) (by decide) (by decide +kernel) (List.forall_mem_cons.mpr ⟨ck_221_0, List.forall_mem_cons.mpr ⟨ck_221_1, List.forall_mem_cons.mpr ⟨ck_221_2, fun _ h => absurd h List.not_mem_nil⟩⟩⟩)
theorem cm_221 : mchM 221 = true := by decide +kernel
theorem ck_222_0 : mchR 222 0 64 = true := by decide +kernel
theorem ck_222_1 : mchR 222 64 64 = true := by decide +kernel
theorem ck_222_2 : mchR 222 128 64 = true := by decide +kernel
theorem ck_222_3 : mchR 222 192 64 = true := by decide +kernel
theorem ck_222 : mchA 222 := mchA_of (n := 242) (l := [0, 1, 2, 3]) (by decide +kernel) (by decide) (by decide +kernel) (List.forall_mem_cons.mpr ⟨ck_222_0, List.forall_mem_cons.mpr ⟨ck_222_1, List.forall_mem_cons.mpr ⟨ck_222_2, List.forall_mem_cons.mpr ⟨ck_222_3, fun _ h => absurd h List.not_mem_nil⟩⟩⟩⟩)
theorem cm_222 : mchM 222 = true := by decide +kernel
theorem ck_223_0 : mchR 223 0 64 = true := by decide +kernel
theorem ck_223_1 : mchR 223 64 64 = true := by decide +kernel
theorem ck_223 : mchA 223 := mchA_of (n := 70) (l := [0, 1]) (by decide +kernel) (by decide) (by decide +kernel) (List.forall_mem_cons.mpr ⟨ck_223_0, List.forall_mem_cons.mpr ⟨ck_223_1, fun _ h => absurd h List.not_mem_nil⟩⟩)
theorem cm_223 : mchM 223 = true := by decide +kernel
theorem ck_224_0 : mchR 224 0 64 = true := by decide +kernel
theorem ck_224_1 : mchR 224 64 64 = true := by decide +kernel
theorem ck_224_2 : mchR 224 128 64 = true := by decide +kernel
theorem ck_224_3 : mchR 224 192 64 = true := by decide +kernel
theorem ck_224 : mchA 224 := mchA_of (n := 215) (l := [0, 1, 2, 3]) (by decide +kernel) (by decide) (by decide +kernel) (List.forall_mem_cons.mpr ⟨ck_224_0, List.forall_mem_cons.mpr ⟨ck_224_1, List.forall_mem_cons.mpr ⟨ck_224_2, List.forall_mem_cons.mpr ⟨ck_224_3, fun _ h => absurd h List.not_mem_nil⟩⟩⟩⟩)
theorem cm_224 : mchM 224 = true := by decide +kernel
theorem ck_225_0 : mchR 225 0 64 = true := by decide +kernel
theorem ck_225 : mchA 225 := mchA_of (n := 59) (l := [0]) (by decide +kernel) (by decide) (by decide +kernel) (List.forall_mem_cons.mpr ⟨ck_225_0, fun _ h => absurd h List.not_mem_nil⟩)
theorem cm_225 : mchM 225 = true := by decide +kernel
theorem ck_226_0 : mchR 226 0 64 = true := by decide +kernel
theorem ck_226_1 : mchR 226 64 64 = true := by decide +kernel
theorem ck_226_2 : mchR 226 128 64 = true := by decide +kernel
theorem ck_226_3 : mchR 226 192 64 = true := by decide +kernel
theorem ck_226_4 : mchR 226 256 64 = true := by decide +kernel
theorem ck_226 : mchA 226 := mchA_of (n := 280) (l := [0, 1, 2, 3, 4]) (by decide +kernel) (by decide) (by decide +kernel) (List.forall_mem_cons.mpr ⟨ck_226_0, List.forall_mem_cons.mpr ⟨ck_226_1, List.forall_mem_cons.mpr ⟨ck_226_2, List.forall_mem_cons.mpr ⟨ck_226_3, List.forall_mem_cons.mpr ⟨ck_226_4, fun _ h => absurd h List.not_mem_nil⟩⟩⟩⟩⟩)
theorem cm_226 : mchM 226 = true := by decide +kernel
theorem ck_227_0 : mchR 227 0 64 = true := by decide +kernel
theorem ck_227_1 : mchR 227 64 64 = true := by decide +kernel
theorem ck_227_2 : mchR 227 128 64 = true := by decide +kernel
theorem ck_227_3 : mchR 227 192 64 = true := by decide +kernel
theorem ck_227_4 : mchR 227 256 64 = true := by decide +kernel
theorem ck_227 : mchA 227 := mchA_of (n := 297) (l := [0, 1, 2, 3, 4]) (by decide +kernel) (by decide) (by decide +kernel) (List.forall_mem_cons.mpr ⟨ck_227_0, List.forall_mem_cons.mpr ⟨ck_227_1, List.forall_mem_cons.mpr ⟨ck_227_2, List.forall_mem_cons.mpr ⟨ck_227_3, List.forall_mem_cons.mpr ⟨ck_227_4, fun _ h => absurd h List.not_mem_nil⟩⟩⟩⟩⟩)
theorem cm_227 : mchM 227 = true := by decide +kernel
theorem ck_228_0 : mchR 228 0 64 = true := by decide +kernel
theorem ck_228_1 : mchR 228 64 64 = true := by decide +kernel
theorem ck_228 : mchA 228 := mchA_of (n := 94) (l := [0, 1]) (by decide +kernel) (by decide) (by decide +kernel) (List.forall_mem_cons.mpr ⟨ck_228_0, List.forall_mem_cons.mpr ⟨ck_228_1, fun _ h => absurd h List.not_mem_nil⟩⟩)
theorem cm_228 : mchM 228 = true := by decide +kernel
theorem ck_229_0 : mchR 229 0 64 = true := by decide +kernel
theorem ck_229 : mchA 229 := mchA_of (n := 35) (l := [0]) (by decide +kernel) (by decide) (by decide +kernel) (List.forall_mem_cons.mpr ⟨ck_229_0, fun _ h => absurd h List.not_mem_nil⟩)
theorem cm_229 : mchM 229 = true := by decide +kernel
theorem ck_230_0 : mchR 230 0 64 = true := by decide +kernel
theorem ck_230 : mchA 230 := mchA_of (n := 11) (l := [0]) (by decide +kernel) (by decide) (by decide +kernel) (List.forall_mem_cons.mpr ⟨ck_230_0, fun _ h => absurd h List.not_mem_nil⟩)
theorem cm_230 : mchM 230 = true := by decide +kernel
theorem ck_231_0 : mchR 231 0 64 = true := by decide +kernel
theorem ck_231_1 : mchR 231 64 64 = true := by decide +kernel
theorem ck_231_2 : mchR 231 128 64 = true := by decide +kernel
theorem ck_231_3 : mchR 231 192 64 = true := by decide +kernel
theorem ck_231 : mchA 231 := mchA_of (n := 250) (l := [0, 1, 2, 3]) (by decide +kernel) (by decide) (by decide +kernel) (List.forall_mem_cons.mpr ⟨ck_231_0, List.forall_mem_cons.mpr ⟨ck_231_1, List.forall_mem_cons.mpr ⟨ck_231_2, List.forall_mem_cons.mpr ⟨ck_231_3, fun _ h => absurd h List.not_mem_nil⟩⟩⟩⟩)
theorem cm_231 : mchM 231 = true := by decide +kernel
theorem ck_232_0 : mchR 232 0 64 = true := by decide +kernel
theorem ck_232_1 : mchR 232 64 64 = true := by decide +kernel
theorem ck_232_2 : mchR 232 128 64 = true := by decide +kernel
theorem ck_232_3 : mchR 232 192 64 = true := by decide +kernel
theorem ck_232 : mchA 232 := mchA_of (n := 204) (l := [0, 1, 2, 3]) (by decide +kernel) (by decide) (by decide +kernel) (List.forall_mem_cons.mpr ⟨ck_232_0, List.forall_mem_cons.mpr ⟨ck_232_1, List.forall_mem_cons.mpr ⟨ck_232_2, List.forall_mem_cons.mpr ⟨ck_232_3, fun _ h => absurd h List.not_mem_nil⟩⟩⟩⟩)
theorem cm_232 : mchM 232 = true := by decide +kernel
theorem ck_233_0 : mchR 233 0 64 = true := by decide +kernel
theorem ck_233_1 : mchR 233 64 64 = true := by decide +kernel
theorem ck_233_2 : mchR 233 128 64 = true := by decide +kernel
theorem ck_233 : mchA 233 := mchA_of (n := 177) (l := [0, 1, 2]) (by decide +kernel) (by decide) (by decide +kernel) (List.forall_mem_cons.mpr ⟨ck_233_0, List.forall_mem_cons.mpr ⟨ck_233_1, List.forall_mem_cons.mpr ⟨ck_233_2, fun _ h => absurd h List.not_mem_nil⟩⟩⟩)
theorem cm_233 : mchM 233 = true := by decide +kernel
theorem ck_234_0 : mchR 234 0 64 = true := by decide +kernel
theorem ck_234_1 : mchR 234 64 64 = true := by decide +kernel
theorem ck_234 : mchA 234 := mchA_of (n := 72) (l := [0, 1]) (by decide +kernel) (by decide) (by decide +kernel) (List.forall_mem_cons.mpr ⟨ck_234_0, List.forall_mem_cons.mpr ⟨ck_234_1, fun _ h => absurd h List.not_mem_nil⟩⟩)
theorem cm_234 : mchM 234 = true := by decide +kernel
theorem ck_235_0 : mchR 235 0 64 = true := by decide +kernel
theorem ck_235_1 : mchR 235 64 64 = true := by decide +kernel
theorem ck_235 : mchA 235 := mchA_of (n := 68) (l := [0, 1]) (by decide +kernel) (by decide) (by decide +kernel) (List.forall_mem_cons.mpr ⟨ck_235_0, List.forall_mem_cons.mpr ⟨ck_235_1, fun _ h => absurd h List.not_mem_nil⟩⟩)
theorem cm_235 : mchM 235 = true := by decide +kernel
theorem ck_236_0 : mchR 236 0 64 = true := by decide +kernel
theorem ck_236_1 : mchR 236 64 64 = true := by decide +kernel
theorem ck_236_2 : mchR 236 128 64 = true := by decide +kernel
theorem ck_236_3 : mchR 236 192 64 = true := by decide +kernel
theorem ck_236_4 : mchR 236 256 64 = true := by decide +kernel
theorem ck_236 : mchA 236 := mchA_of (n := 271) (l := [0, 1, 2, 3, 4]) (by decide +kernel) (by decide) (by decide +kernel) (List.forall_mem_cons.mpr ⟨ck_236_0, List.forall_mem_cons.mpr ⟨ck_236_1, List.forall_mem_cons.mpr ⟨ck_236_2, List.forall_mem_cons.mpr ⟨ck_236_3, List.forall_mem_cons.mpr ⟨ck_236_4, fun _ h => absurd h List.not_mem_nil⟩⟩⟩⟩⟩)
theorem cm_236 : mchM 236 = true := by decide +kernel
theorem ck_237_0 : mchR 237 0 64 = true := by decide +kernel
theorem ck_237_1 : mchR 237 64 64 = true := by decide +kernel
theorem ck_237 : mchA 237 := mchA_of (n := 69) (l := [0, 1]) (by decide +kernel) (by decide) (by decide +kernel) (List.forall_mem_cons.mpr ⟨ck_237_0, List.forall_mem_cons.mpr ⟨ck_237_1, fun _ h => absurd h List.not_mem_nil⟩⟩)
theorem cm_237 : mchM 237 = true := by decide +kernel
theorem ck_238_0 : mchR 238 0 64 = true := by decide +kernel
theorem ck_238_1 : mchR 238 64 64 = true := by decide +kernel
theorem ck_238 : mchA 238 := mchA_of (n := 116) (l := [0, 1]) (by decide +kernel) (by decide) (by decide +kernel) (List.forall_mem_cons.mpr ⟨ck_238_0, List.forall_mem_cons.mpr ⟨ck_238_1, fun _ h => absurd h List.not_mem_nil⟩⟩)
theorem cm_238 : mchM 238 = true := by decide +kernel
theorem ck_239_0 : mchR 239 0 64 = true := by decide +kernel
theorem ck_239 : mchA 239 := mchA_of (n := 32) (l := [0]) (by decide +kernel) (by decide) (by decide +kernel) (List.forall_mem_cons.mpr ⟨ck_239_0, fun _ h => absurd h List.not_mem_nil⟩)
theorem cm_239 : mchM 239 = true := by decide +kernel
theorem ck_240_0 : mchR 240 0 64 = true := by decide +kernel
theorem ck_240 : mchA 240 := mchA_of (n := 23) (l := [0]) (by decide +kernel) (by decide) (by decide +kernel) (List.forall_mem_cons.mpr ⟨ck_240_0, fun _ h => absurd h List.not_mem_nil⟩)
theorem cm_240 : mchM 240 = true := by decide +kernel
theorem ck_241_0 : mchR 241 0 64 = true := by decide +kernel
theorem ck_241_1 : mchR 241 64 64 = true := by decide +kernel
theorem ck_241_2 : mchR 241 128 64 = true := by decide +kernel
theorem ck_241 : mchA 241 := mchA_of (n := 164) (l := [0, 1, 2]) (by decide +kernel) (by decide) (by decide +kernel) (List.forall_mem_cons.mpr ⟨ck_241_0, List.forall_mem_cons.mpr ⟨ck_241_1, List.forall_mem_cons.mpr ⟨ck_241_2, fun _ h => absurd h List.not_mem_nil⟩⟩⟩)
theorem cm_241 : mchM 241 = true := by decide +kernel
theorem ck_242_0 : mchR 242 0 64 = true := by decide +kernel
theorem ck_242_1 : mchR 242 64 64 = true := by decide +kernel
theorem ck_242 : mchA 242 := mchA_of (n := 105) (l := [0, 1]) (by decide +kernel) (by decide) (by decide +kernel) (List.forall_mem_cons.mpr ⟨ck_242_0, List.forall_mem_cons.mpr ⟨ck_242_1, fun _ h => absurd h List.not_mem_nil⟩⟩)
theorem cm_242 : mchM 242 = true := by decide +kernel
theorem ck_243_0 : mchR 243 0 64 = true := by decide +kernel
theorem ck_243_1 : mchR 243 64 64 = true := by decide +kernel
theorem ck_243 : mchA 243 := mchA_of (n := 74) (l := [0, 1]) (by decide +kernel) (by decide) (by decide +kernel) (List.forall_mem_cons.mpr ⟨ck_243_0, List.forall_mem_cons.mpr ⟨ck_243_1, fun _ h => absurd h List.not_mem_nil⟩⟩)
theorem cm_243 : mchM 243 = true := by decide +kernel
theorem ck_244_0 : mchR 244 0 64 = true := by decide +kernel
theorem ck_244 : mchA 244 := mchA_of (n := 23) (l := [0]) (by decide +kernel) (by decide) (by decide +kernel) (List.forall_mem_cons.mpr ⟨ck_244_0, fun _ h => absurd h List.not_mem_nil⟩)
theorem cm_244 : mchM 244 = true := by decide +kernel
theorem ck_245_0 : mchR 245 0 64 = true := by decide +kernel
theorem ck_245_1 : mchR 245 64 64 = true := by decide +kernel
theorem ck_245_2 : mchR 245 128 64 = true := by decide +kernel
theorem ck_245 : mchA 245 := mchA_of (n := 166) (l := [0, 1, 2]) (by decide +kernel) (by decide) (by decide +kernel) (List.forall_mem_cons.mpr ⟨ck_245_0, List.forall_mem_cons.mpr ⟨ck_245_1, List.forall_mem_cons.mpr ⟨ck_245_2, fun _ h => absurd h List.not_mem_nil⟩⟩⟩)
theorem cm_245 : mchM 245 = true := by decide +kernel
theorem ck_246_0 : mchR 246 0 64 = true := by decide +kernel
theorem ck_246_1 : mchR 246 64 64 = true := by decide +kernel
theorem ck_246 : mchA 246 := mchA_of (n := 102) (l := [0, 1]) (by decide +kernel) (by decide) (by decide +kernel) (List.forall_mem_cons.mpr ⟨ck_246_0, List.forall_mem_cons.mpr ⟨ck_246_1, fun _ h => absurd h List.not_mem_nil⟩⟩)
theorem cm_246 : mchM 246 = true := by decide +kernel
theorem ck_247_0 : mchR 247 0 64 = true := by decide +kernel
theorem ck_247_1 : mchR 247 64 64 = true := by decide +kernel
theorem ck_247 : mchA 247 := mchA_of (n := 94) (l := [0, 1]) (by decide +kernel) (by decide) (by decide +kernel) (List.forall_mem_cons.mpr ⟨ck_247_0, List.forall_mem_cons.mpr ⟨ck_247_1, fun _ h => absurd h List.not_mem_nil⟩⟩)
theorem cm_247 : mchM 247 = true := by decide +kernel
theorem ck_248_0 : mchR 248 0 64 = true := by decide +kernel
theorem ck_248 : mchA 248 := mchA_of (n := 35) (l := [0]) (by decide +kernel) (by decide) (by decide +kernel) (List.forall_mem_cons.mpr ⟨ck_248_0, fun _ h => absurd h List.not_mem_nil⟩)
theorem cm_248 : mchM 248 = true := by decide +kernel
theorem ck_249_0 : mchR 249 0 64 = true := by decide +kernel
theorem ck_249 : mchA 249 := mchA_of (n := 23) (l := [0]) (by decide +kernel) (by decide) (by decide +kernel) (List.forall_mem_cons.mpr ⟨ck_249_0, fun _ h => absurd h List.not_mem_nil⟩)
theorem cm_249 : mchM 249 = true := by decide +kernel
theorem ck_250_0 : mchR 250 0 64 = true := by decide +kernel
theorem ck_250_1 : mchR 250 64 64 = true := by decide +kernel
theorem ck_250_2 : mchR 250 128 64 = true := by decide +kernel
theorem ck_250 : mchA 250 := mchA_of (n := 139) (l := [0, 1, 2]) (by decide +kernel) (by decide) (by decide +kernel) (List.forall_mem_cons.mpr ⟨ck_250_0, List.forall_mem_cons.mpr ⟨ck_250_1, List.forall_mem_cons.mpr ⟨ck_250_2, fun _ h => absurd h List.not_mem_nil⟩⟩⟩)
theorem cm_250 : mchM 250 = true := by decide +kernel
theorem ck_251_0 : mchR 251 0 64 = true := by decide +kernel
theorem ck_251 : mchA 251 := mchA_of (n := 51) (l := [0]) (by decide +kernel) (by decide) (by decide +kernel) (List.forall_mem_cons.mpr ⟨ck_251_0, fun _ h => absurd h List.not_mem_nil⟩)
theorem cm_251 : mchM 251 = true := by decide +kernel
theorem ck_252_0 : mchR 252 0 64 = true := by decide +kernel
theorem ck_252 : mchA 252 := mchA_of (n := 20) (l := [0]) (by decide +kernel) (by decide) (by decide +kernel) (List.forall_mem_cons.mpr ⟨ck_252_0, fun _ h => absurd h List.not_mem_nil⟩)
theorem cm_252 : mchM 252 = true := by decide +kernel
theorem ck_253_0 : mchR 253 0 64 = true := by decide +kernel
theorem ck_253 : mchA 253 := mchA_of (n := 36) (l := [0]) (by decide +kernel) (by decide) (by decide +kernel) (List.forall_mem_cons.mpr ⟨ck_253_0, fun _ h => absurd h List.not_mem_nil⟩)
theorem cm_253 : mchM 253 = true := by decide +kernel
theorem ck_254_0 : mchR 254 0 64 = true := by decide +kernel
theorem ck_254 : mchA 254 := mchA_of (n := 30) (l := [0]) (by decide +kernel) (by decide) (by decide +kernel) (List.forall_mem_cons.mpr ⟨ck_254_0, fun _ h => absurd h List.not_mem_nil⟩)
theorem cm_254 : mchM 254 = true := by decide +kernel
theorem ck_255_0 : mchR 255 0 64 = true := by decide +kernel
theorem ck_255 : mchA 255 := mchA_of (n := 14) (l := [0]) (by decide +kernel) (by decide) (by decide +kernel) (List.forall_mem_cons.mpr ⟨ck_255_0, fun _ h => absurd h List.not_mem_nil⟩)
theorem cm_255 : mchM 255 = true := by decide +kernel
theorem ck_256_0 : mchR 256 0 64 = true := by decide +kernel
theorem ck_256 : mchA 256 := mchA_of (n := 27) (l := [0]) (by decide +kernel) (by decide) (by decide +kernel) (List.forall_mem_cons.mpr ⟨ck_256_0, fun _ h => absurd h List.not_mem_nil⟩)
theorem cm_256 : mchM 256 = true := by decide +kernel
theorem ck_257_0 : mchR 257 0 64 = true := by decide +kernel
theorem ck_257 : mchA 257 := mchA_of (n := 40) (l := [0]) (by decide +kernel) (by decide) (by decide +kernel) (List.forall_mem_cons.mpr ⟨ck_257_0, fun _ h => absurd h List.not_mem_nil⟩)
theorem cm_257 : mchM 257 = true := by decide +kernel
theorem ck_258_0 : mchR 258 0 64 = true := by decide +kernel
theorem ck_258 : mchA 258 := mchA_of (n := 34) (l := [0]) (by decide +kernel) (by decide) (by decide +kernel) (List.forall_mem_cons.mpr ⟨ck_258_0, fun _ h => absurd h List.not_mem_nil⟩)
theorem cm_258 : mchM 258 = true := by decide +kernel
theorem ck_259_0 : mchR 259 0 64 = true := by decide +kernel
theorem ck_259 : mchA 259 := mchA_of (n := 30) (l := [0]) (by decide +kernel) (by decide) (by decide +kernel) (List.forall_mem_cons.mpr ⟨ck_259_0, fun _ h => absurd h List.not_mem_nil⟩)
theorem cm_259 : mchM 259 = true := by decide +kernel
theorem ck_260_0 : mchR 260 0 64 = true := by decide +kernel
theorem ck_260 : mchA 260 := mchA_of (n := 52) (l := [0]) (by decide +kernel) (by decide) (by decide +kernel) (List.forall_mem_cons.mpr ⟨ck_260_0, fun _ h => absurd h List.not_mem_nil⟩)
theorem cm_260 : mchM 260 = true := by decide +kernel
theorem ck_261_0 : mchR 261 0 64 = true := by decide +kernel
theorem ck_261 : mchA 261 := mchA_of (n := 40) (l := [0]) (by decide +kernel) (by decide) (by decide +kernel) (List.forall_mem_cons.mpr ⟨ck_261_0, fun _ h => absurd h List.not_mem_nil⟩)
theorem cm_261 : mchM 261 = true := by decide +kernel
theorem ck_262_0 : mchR 262 0 64 = true := by decide +kernel
theorem ck_262_1 : mchR 262 64 64 = true := by decide +kernel
theorem ck_262 : mchA 262 := mchA_of (n := 117) (l := [0, 1]) (by decide +kernel) (by decide) (by decide +kernel) (List.forall_mem_cons.mpr ⟨ck_262_0, List.forall_mem_cons.mpr ⟨ck_262_1, fun _ h => absurd h List.not_mem_nil⟩⟩)
theorem cm_262 : mchM 262 = true := by decide +kernel
theorem ck_263_0 : mchR 263 0 64 = true := by decide +kernel
theorem ck_263 : mchA 263 := mchA_of (n := 20) (l := [0]) (by decide +kernel) (by decide) (by decide +kernel) (List.forall_mem_cons.mpr ⟨ck_263_0, fun _ h => absurd h List.not_mem_nil⟩)
theorem cm_263 : mchM 263 = true := by decide +kernel
theorem ck_264_0 : mchR 264 0 64 = true := by decide +kernel
theorem ck_264_1 : mchR 264 64 64 = true := by decide +kernel
theorem ck_264_2 : mchR 264 128 64 = true := by decide +kernel
theorem ck_264 : mchA 264 := mchA_of (n := 164) (l := [0, 1, 2]) (by decide +kernel) (by decide) (by decide +kernel) (List.forall_mem_cons.mpr ⟨ck_264_0, List.forall_mem_cons.mpr ⟨ck_264_1, List.forall_mem_cons.mpr ⟨ck_264_2, fun _ h => absurd h List.not_mem_nil⟩⟩⟩)
theorem cm_264 : mchM 264 = true := by decide +kernel
theorem ck_265_0 : mchR 265 0 64 = true := by decide +kernel
theorem ck_265 : mchA 265 := mchA_of (n := 30) (l := [0]) (by decide +kernel) (by decide) (by decide +kernel) (List.forall_mem_cons.mpr ⟨ck_265_0, fun _ h => absurd h List.not_mem_nil⟩)
theorem cm_265 : mchM 265 = true := by decide +kernel
theorem ck_266_0 : mchR 266 0 64 = true := by decide +kernel
theorem ck_266 : mchA 266 := mchA_of (n := 55) (l := [0]) (by decide +kernel) (by decide) (by decide +kernel) (List.forall_mem_cons.mpr ⟨ck_266_0, fun _ h => absurd h List.not_mem_nil⟩)
theorem cm_266 : mchM 266 = true := by decide +kernel
theorem ck_267_0 : mchR 267 0 64 = true := by decide +kernel
theorem ck_267 : mchA 267 := mchA_of (n := 23) (l := [0]) (by decide +kernel) (by decide) (by decide +kernel) (List.forall_mem_cons.mpr ⟨ck_267_0, fun _ h => absurd h List.not_mem_nil⟩)
theorem cm_267 : mchM 267 = true := by decide +kernel
theorem ck_268_0 : mchR 268 0 64 = true := by decide +kernel
theorem ck_268 : mchA 268 := mchA_of (n := 58) (l := [0]) (by decide +kernel) (by decide) (by decide +kernel) (List.forall_mem_cons.mpr ⟨ck_268_0, fun _ h => absurd h List.not_mem_nil⟩)
theorem cm_268 : mchM 268 = true := by decide +kernel
theorem ck_269_0 : mchR 269 0 64 = true := by decide +kernel
theorem ck_269_1 : mchR 269 64 64 = true := by decide +kernel
theorem ck_269_2 : mchR 269 128 64 = true := by decide +kernel
theorem ck_269_3 : mchR 269 192 64 = true := by decide +kernel
theorem ck_269_4 : mchR 269 256 64 = true := by decide +kernel
theorem ck_269_5 : mchR 269 320 64 = true := by decide +kernel
theorem ck_269_6 : mchR 269 384 64 = true := by decide +kernel
theorem ck_269_7 : mchR 269 448 64 = true := by decide +kernel
theorem ck_269_8 : mchR 269 512 64 = true := by decide +kernel
theorem ck_269_9 : mchR 269 576 64 = true := by decide +kernel
theorem ck_269_10 : mchR 269 640 64 = true := by decide +kernel
theorem ck_269_11 : mchR 269 704 64 = true := by decide +kernel
theorem ck_269_12 : mchR 269 768 64 = true := by decide +kernel
theorem ck_269_13 : mchR 269 832 64 = true := by decide +kernel
theorem ck_269_14 : mchR 269 896 64 = true := by decide +kernel
theorem ck_269_15 : mchR 269 960 64 = true := by decide +kernel
theorem ck_269_16 : mchR 269 1024 64 = true := by decide +kernel
theorem ck_269_17 : mchR 269 1088 64 = true := by decide +kernel
theorem ck_269 : mchA 269 := mchA_of (n := 1111) (l := [0, 1, 2, 3, 4, 5, 6, 7, 8, 9, 10, 11, 12, 13, 14, 15, 16, 17]) (by decide +kernel) (by decide) (by decide +kernel) (List.forall_mem_cons.mpr ⟨ck_269_0, List.forall_mem_cons.mpr ⟨ck_269_1, List.forall_mem_cons.mpr ⟨ck_269_2, List.forall_mem_cons.mpr ⟨ck_269_3, List.forall_mem_cons.mpr ⟨ck_269_4, List.forall_mem_cons.mpr ⟨ck_269_5, List.forall_mem_cons.mpr ⟨ck_269_6, List.forall_mem_cons.mpr ⟨ck_269_7, List.forall_mem_cons.mpr ⟨ck_269_8, List.forall_mem_cons.mpr ⟨ck_269_9, List.forall_mem_cons.mpr ⟨ck_269_10, List.forall_mem_cons.mpr ⟨ck_269_11, List.forall_mem_cons.mpr ⟨ck_269_12, List.forall_mem_cons.mpr ⟨ck_269_13, List.forall_mem_cons.mpr ⟨ck_269_14, List.forall_mem_cons.mpr ⟨ck_269_15, List.forall_mem_cons.mpr ⟨ck_269_16, List.forall_mem_cons.mpr ⟨ck_269_17, fun _ h => absurd h List.not_mem_nil⟩⟩⟩⟩⟩⟩⟩⟩⟩⟩⟩⟩⟩⟩⟩⟩⟩⟩)

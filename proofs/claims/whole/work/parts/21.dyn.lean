def zz_ : Nat := 385
def ss_ : Nat := 268177
def shp_ (n : Nat) : Nat × Nat := cond (Nat.ble 193 n) (cond (Nat.ble 289 n) (cond (Nat.ble 337 n) (cond (Nat.ble 361 n) (cond (Nat.ble 373 n) (cond (Nat.ble 379 n) (cond (Nat.ble 382 n) (cond (Nat.ble 384 n) (cond (Nat.ble 385 n) (cond (Nat.beq n 385) (1, 240) (0, 0)) (cond (Nat.beq n 384) (1, 24060) (0, 0))) (cond (Nat.ble 383 n) (cond (Nat.beq n 383) (4, 1860) (0, 0)) (cond (Nat.beq n 382) (1, 3600) (0, 0)))) (cond (Nat.ble 380 n) (cond (Nat.ble 381 n) (cond (Nat.beq n 381) (1, 3600) (0, 0)) (cond (Nat.beq n 380) (2, 40) (0, 0))) (cond (Nat.beq n 379) (2, 40) (0, 0)))) (cond (Nat.ble 376 n) (cond (Nat.ble 377 n) (cond (Nat.ble 378 n) (cond (Nat.beq n 378) (2, 40) (0, 0)) (cond (Nat.beq n 377) (1, 40) (0, 0))) (cond (Nat.beq n 376) (2, 64) (0, 0))) (cond (Nat.ble 374 n) (cond (Nat.ble 375 n) (cond (Nat.beq n 375) (1, 3600) (0, 0)) (cond (Nat.beq n 374) (1, 501) (0, 0))) (cond (Nat.beq n 373) (4, 501) (0, 0))))) (cond (Nat.ble 367 n) (cond (Nat.ble 370 n) (cond (Nat.ble 371 n) (cond (Nat.ble 372 n) (cond (Nat.beq n 372) (2, 60) (0, 0)) (cond (Nat.beq n 371) (1, 2000) (0, 0))) (cond (Nat.beq n 370) (1, 2000) (0, 0))) (cond (Nat.ble 368 n) (cond (Nat.ble 369 n) (cond (Nat.beq n 369) (1, 60) (0, 0)) (cond (Nat.beq n 368) (2, 3600) (0, 0))) (cond (Nat.beq n 367) (1, 14400) (0, 0)))) (cond (Nat.ble 364 n) (cond (Nat.ble 365 n) (cond (Nat.ble 366 n) (cond (Nat.beq n 366) (1, 3600) (0, 0)) (cond (Nat.beq n 365) (1, 16384) (0, 0))) (cond (Nat.beq n 364) (1, 16384) (0, 0))) (cond (Nat.ble 362 n) (cond (Nat.ble 363 n) (cond (Nat.beq n 363) (1, 3600) (0, 0)) (cond (Nat.beq n 362) (1, 3600) (0, 0))) (cond (Nat.beq n 361) (1, 3600) (0, 0)))))) (cond (Nat.ble 349 n) (cond (Nat.ble 355 n) (cond (Nat.ble 358 n) (cond (Nat.ble 359 n) (cond (Nat.ble 360 n) (cond (Nat.beq n 360) (1, 3600) (0, 0)) (cond (Nat.beq n 359) (2, 3600) (0, 0))) (cond (Nat.beq n 358) (1, 14400) (0, 0))) (cond (Nat.ble 356 n) (cond (Nat.ble 357 n) (cond (Nat.beq n 357) (3, 500) (0, 0)) (cond (Nat.beq n 356) (2, 6600) (0, 0))) (cond (Nat.beq n 355) (1, 26400) (0, 0)))) (cond (Nat.ble 352 n) (cond (Nat.ble 353 n) (cond (Nat.ble 354 n) (cond (Nat.beq n 354) (1, 110) (0, 0)) (cond (Nat.beq n 353) (1, 110) (0, 0))) (cond (Nat.beq n 352) (1, 110) (0, 0))) (cond (Nat.ble 350 n) (cond (Nat.ble 351 n) (cond (Nat.beq n 351) (19, 52) (0, 0)) (cond (Nat.beq n 350) (1, 60) (0, 0))) (cond (Nat.beq n 349) (1, 60) (0, 0))))) (cond (Nat.ble 343 n) (cond (Nat.ble 346 n) (cond (Nat.ble 347 n) (cond (Nat.ble 348 n) (cond (Nat.beq n 348) (1, 512) (0, 0)) (cond (Nat.beq n 347) (1, 400) (0, 0))) (cond (Nat.beq n 346) (1, 24000) (0, 0))) (cond (Nat.ble 344 n) (cond (Nat.ble 345 n) (cond (Nat.beq n 345) (2, 60) (0, 0)) (cond (Nat.beq n 344) (1, 240) (0, 0))) (cond (Nat.beq n 343) (11, 5) (0, 0)))) (cond (Nat.ble 340 n) (cond (Nat.ble 341 n) (cond (Nat.ble 342 n) (cond (Nat.beq n 342) (12, 7) (0, 0)) (cond (Nat.beq n 341) (4, 1860) (0, 0))) (cond (Nat.beq n 340) (16, 1) (0, 0))) (cond (Nat.ble 338 n) (cond (Nat.ble 339 n) (cond (Nat.beq n 339) (2, 60) (0, 0)) (cond (Nat.beq n 338) (1, 240) (0, 0))) (cond (Nat.beq n 337) (11, 5) (0, 0))))))) (cond (Nat.ble 313 n) (cond (Nat.ble 325 n) (cond (Nat.ble 331 n) (cond (Nat.ble 334 n) (cond (Nat.ble 335 n) (cond (Nat.ble 336 n) (cond (Nat.beq n 336) (2, 60) (0, 0)) (cond (Nat.beq n 335) (1, 240) (0, 0))) (cond (Nat.beq n 334) (11, 5) (0, 0))) (cond (Nat.ble 332 n) (cond (Nat.ble 333 n) (cond (Nat.beq n 333) (2, 60) (0, 0)) (cond (Nat.beq n 332) (1, 240) (0, 0))) (cond (Nat.beq n 331) (11, 5) (0, 0)))) (cond (Nat.ble 328 n) (cond (Nat.ble 329 n) (cond (Nat.ble 330 n) (cond (Nat.beq n 330) (2, 60) (0, 0)) (cond (Nat.beq n 329) (1, 240) (0, 0))) (cond (Nat.beq n 328) (11, 5) (0, 0))) (cond (Nat.ble 326 n) (cond (Nat.ble 327 n) (cond (Nat.beq n 327) (2, 60) (0, 0)) (cond (Nat.beq n 326) (1, 240) (0, 0))) (cond (Nat.beq n 325) (11, 5) (0, 0))))) (cond (Nat.ble 319 n) (cond (Nat.ble 322 n) (cond (Nat.ble 323 n) (cond (Nat.ble 324 n) (cond (Nat.beq n 324) (2, 60) (0, 0)) (cond (Nat.beq n 323) (1, 240) (0, 0))) (cond (Nat.beq n 322) (11, 5) (0, 0))) (cond (Nat.ble 320 n) (cond (Nat.ble 321 n) (cond (Nat.beq n 321) (2, 60) (0, 0)) (cond (Nat.beq n 320) (1, 240) (0, 0))) (cond (Nat.beq n 319) (11, 5) (0, 0)))) (cond (Nat.ble 316 n) (cond (Nat.ble 317 n) (cond (Nat.ble 318 n) (cond (Nat.beq n 318) (2, 60) (0, 0)) (cond (Nat.beq n 317) (1, 240) (0, 0))) (cond (Nat.beq n 316) (11, 5) (0, 0))) (cond (Nat.ble 314 n) (cond (Nat.ble 315 n) (cond (Nat.beq n 315) (2, 60) (0, 0)) (cond (Nat.beq n 314) (1, 240) (0, 0))) (cond (Nat.beq n 313) (11, 5) (0, 0)))))) (cond (Nat.ble 301 n) (cond (Nat.ble 307 n) (cond (Nat.ble 310 n) (cond (Nat.ble 311 n) (cond (Nat.ble 312 n) (cond (Nat.beq n 312) (2, 60) (0, 0)) (cond (Nat.beq n 311) (1, 240) (0, 0))) (cond (Nat.beq n 310) (11, 5) (0, 0))) (cond (Nat.ble 308 n) (cond (Nat.ble 309 n) (cond (Nat.beq n 309) (2, 60) (0, 0)) (cond (Nat.beq n 308) (1, 240) (0, 0))) (cond (Nat.beq n 307) (11, 5) (0, 0)))) (cond (Nat.ble 304 n) (cond (Nat.ble 305 n) (cond (Nat.ble 306 n) (cond (Nat.beq n 306) (2, 60) (0, 0)) (cond (Nat.beq n 305) (1, 240) (0, 0))) (cond (Nat.beq n 304) (11, 5) (0, 0))) (cond (Nat.ble 302 n) (cond (Nat.ble 303 n) (cond (Nat.beq n 303) (2, 60) (0, 0)) (cond (Nat.beq n 302) (1, 240) (0, 0))) (cond (Nat.beq n 301) (11, 5) (0, 0))))) (cond (Nat.ble 295 n) (cond (Nat.ble 298 n) (cond (Nat.ble 299 n) (cond (Nat.ble 300 n) (cond (Nat.beq n 300) (2, 60) (0, 0)) (cond (Nat.beq n 299) (1, 240) (0, 0))) (cond (Nat.beq n 298) (11, 5) (0, 0))) (cond (Nat.ble 296 n) (cond (Nat.ble 297 n) (cond (Nat.beq n 297) (2, 60) (0, 0)) (cond (Nat.beq n 296) (1, 240) (0, 0))) (cond (Nat.beq n 295) (11, 5) (0, 0)))) (cond (Nat.ble 292 n) (cond (Nat.ble 293 n) (cond (Nat.ble 294 n) (cond (Nat.beq n 294) (2, 60) (0, 0)) (cond (Nat.beq n 293) (1, 240) (0, 0))) (cond (Nat.beq n 292) (11, 5) (0, 0))) (cond (Nat.ble 290 n) (cond (Nat.ble 291 n) (cond (Nat.beq n 291) (2, 60) (0, 0)) (cond (Nat.beq n 290) (1, 240) (0, 0))) (cond (Nat.beq n 289) (11, 5) (0, 0)))))))) (cond (Nat.ble 241 n) (cond (Nat.ble 265 n) (cond (Nat.ble 277 n) (cond (Nat.ble 283 n) (cond (Nat.ble 286 n) (cond (Nat.ble 287 n) (cond (Nat.ble 288 n) (cond (Nat.beq n 288) (2, 60) (0, 0)) (cond (Nat.beq n 287) (1, 240) (0, 0))) (cond (Nat.beq n 286) (11, 5) (0, 0))) (cond (Nat.ble 284 n) (cond (Nat.ble 285 n) (cond (Nat.beq n 285) (2, 60) (0, 0)) (cond (Nat.beq n 284) (1, 240) (0, 0))) (cond (Nat.beq n 283) (11, 5) (0, 0)))) (cond (Nat.ble 280 n) (cond (Nat.ble 281 n) (cond (Nat.ble 282 n) (cond (Nat.beq n 282) (2, 60) (0, 0)) (cond (Nat.beq n 281) (1, 240) (0, 0))) (cond (Nat.beq n 280) (11, 5) (0, 0))) (cond (Nat.ble 278 n) (cond (Nat.ble 279 n) (cond (Nat.beq n 279) (2, 60) (0, 0)) (cond (Nat.beq n 278) (1, 240) (0, 0))) (cond (Nat.beq n 277) (11, 5) (0, 0))))) (cond (Nat.ble 271 n) (cond (Nat.ble 274 n) (cond (Nat.ble 275 n) (cond (Nat.ble 276 n) (cond (Nat.beq n 276) (2, 60) (0, 0)) (cond (Nat.beq n 275) (1, 240) (0, 0))) (cond (Nat.beq n 274) (11, 5) (0, 0))) (cond (Nat.ble 272 n) (cond (Nat.ble 273 n) (cond (Nat.beq n 273) (2, 60) (0, 0)) (cond (Nat.beq n 272) (1, 240) (0, 0))) (cond (Nat.beq n 271) (11, 5) (0, 0)))) (cond (Nat.ble 268 n) (cond (Nat.ble 269 n) (cond (Nat.ble 270 n) (cond (Nat.beq n 270) (2, 60) (0, 0)) (cond (Nat.beq n 269) (1, 240) (0, 0))) (cond (Nat.beq n 268) (11, 5) (0, 0))) (cond (Nat.ble 266 n) (cond (Nat.ble 267 n) (cond (Nat.beq n 267) (2, 60) (0, 0)) (cond (Nat.beq n 266) (1, 240) (0, 0))) (cond (Nat.beq n 265) (11, 5) (0, 0)))))) (cond (Nat.ble 253 n) (cond (Nat.ble 259 n) (cond (Nat.ble 262 n) (cond (Nat.ble 263 n) (cond (Nat.ble 264 n) (cond (Nat.beq n 264) (2, 60) (0, 0)) (cond (Nat.beq n 263) (1, 240) (0, 0))) (cond (Nat.beq n 262) (11, 5) (0, 0))) (cond (Nat.ble 260 n) (cond (Nat.ble 261 n) (cond (Nat.beq n 261) (2, 60) (0, 0)) (cond (Nat.beq n 260) (1, 240) (0, 0))) (cond (Nat.beq n 259) (11, 5) (0, 0)))) (cond (Nat.ble 256 n) (cond (Nat.ble 257 n) (cond (Nat.ble 258 n) (cond (Nat.beq n 258) (2, 60) (0, 0)) (cond (Nat.beq n 257) (1, 240) (0, 0))) (cond (Nat.beq n 256) (11, 5) (0, 0))) (cond (Nat.ble 254 n) (cond (Nat.ble 255 n) (cond (Nat.beq n 255) (2, 60) (0, 0)) (cond (Nat.beq n 254) (1, 240) (0, 0))) (cond (Nat.beq n 253) (11, 5) (0, 0))))) (cond (Nat.ble 247 n) (cond (Nat.ble 250 n) (cond (Nat.ble 251 n) (cond (Nat.ble 252 n) (cond (Nat.beq n 252) (2, 60) (0, 0)) (cond (Nat.beq n 251) (1, 240) (0, 0))) (cond (Nat.beq n 250) (11, 5) (0, 0))) (cond (Nat.ble 248 n) (cond (Nat.ble 249 n) (cond (Nat.beq n 249) (2, 60) (0, 0)) (cond (Nat.beq n 248) (1, 240) (0, 0))) (cond (Nat.beq n 247) (11, 5) (0, 0)))) (cond (Nat.ble 244 n) (cond (Nat.ble 245 n) (cond (Nat.ble 246 n) (cond (Nat.beq n 246) (2, 60) (0, 0)) (cond (Nat.beq n 245) (1, 240) (0, 0))) (cond (Nat.beq n 244) (11, 5) (0, 0))) (cond (Nat.ble 242 n) (cond (Nat.ble 243 n) (cond (Nat.beq n 243) (2, 60) (0, 0)) (cond (Nat.beq n 242) (1, 240) (0, 0))) (cond (Nat.beq n 241) (11, 5) (0, 0))))))) (cond (Nat.ble 217 n) (cond (Nat.ble 229 n) (cond (Nat.ble 235 n) (cond (Nat.ble 238 n) (cond (Nat.ble 239 n) (cond (Nat.ble 240 n) (cond (Nat.beq n 240) (2, 60) (0, 0)) (cond (Nat.beq n 239) (1, 240) (0, 0))) (cond (Nat.beq n 238) (11, 5) (0, 0))) (cond (Nat.ble 236 n) (cond (Nat.ble 237 n) (cond (Nat.beq n 237) (2, 60) (0, 0)) (cond (Nat.beq n 236) (1, 240) (0, 0))) (cond (Nat.beq n 235) (11, 5) (0, 0)))) (cond (Nat.ble 232 n) (cond (Nat.ble 233 n) (cond (Nat.ble 234 n) (cond (Nat.beq n 234) (2, 60) (0, 0)) (cond (Nat.beq n 233) (1, 240) (0, 0))) (cond (Nat.beq n 232) (11, 5) (0, 0))) (cond (Nat.ble 230 n) (cond (Nat.ble 231 n) (cond (Nat.beq n 231) (2, 60) (0, 0)) (cond (Nat.beq n 230) (1, 240) (0, 0))) (cond (Nat.beq n 229) (11, 5) (0, 0))))) (cond (Nat.ble 223 n) (cond (Nat.ble 226 n) (cond (Nat.ble 227 n) (cond (Nat.ble 228 n) (cond (Nat.beq n 228) (2, 60) (0, 0)) (cond (Nat.beq n 227) (1, 240) (0, 0))) (cond (Nat.beq n 226) (11, 5) (0, 0))) (cond (Nat.ble 224 n) (cond (Nat.ble 225 n) (cond (Nat.beq n 225) (2, 60) (0, 0)) (cond (Nat.beq n 224) (1, 240) (0, 0))) (cond (Nat.beq n 223) (11, 5) (0, 0)))) (cond (Nat.ble 220 n) (cond (Nat.ble 221 n) (cond (Nat.ble 222 n) (cond (Nat.beq n 222) (2, 60) (0, 0)) (cond (Nat.beq n 221) (1, 240) (0, 0))) (cond (Nat.beq n 220) (11, 5) (0, 0))) (cond (Nat.ble 218 n) (cond (Nat.ble 219 n) (cond (Nat.beq n 219) (2, 60) (0, 0)) (cond (Nat.beq n 218) (1, 240) (0, 0))) (cond (Nat.beq n 217) (11, 5) (0, 0)))))) (cond (Nat.ble 205 n) (cond (Nat.ble 211 n) (cond (Nat.ble 214 n) (cond (Nat.ble 215 n) (cond (Nat.ble 216 n) (cond (Nat.beq n 216) (2, 60) (0, 0)) (cond (Nat.beq n 215) (1, 240) (0, 0))) (cond (Nat.beq n 214) (11, 5) (0, 0))) (cond (Nat.ble 212 n) (cond (Nat.ble 213 n) (cond (Nat.beq n 213) (2, 60) (0, 0)) (cond (Nat.beq n 212) (1, 240) (0, 0))) (cond (Nat.beq n 211) (11, 5) (0, 0)))) (cond (Nat.ble 208 n) (cond (Nat.ble 209 n) (cond (Nat.ble 210 n) (cond (Nat.beq n 210) (2, 60) (0, 0)) (cond (Nat.beq n 209) (1, 240) (0, 0))) (cond (Nat.beq n 208) (11, 5) (0, 0))) (cond (Nat.ble 206 n) (cond (Nat.ble 207 n) (cond (Nat.beq n 207) (2, 60) (0, 0)) (cond (Nat.beq n 206) (1, 240) (0, 0))) (cond (Nat.beq n 205) (11, 5) (0, 0))))) (cond (Nat.ble 199 n) (cond (Nat.ble 202 n) (cond (Nat.ble 203 n) (cond (Nat.ble 204 n) (cond (Nat.beq n 204) (2, 60) (0, 0)) (cond (Nat.beq n 203) (1, 240) (0, 0))) (cond (Nat.beq n 202) (11, 5) (0, 0))) (cond (Nat.ble 200 n) (cond (Nat.ble 201 n) (cond (Nat.beq n 201) (2, 60) (0, 0)) (cond (Nat.beq n 200) (1, 240) (0, 0))) (cond (Nat.beq n 199) (11, 5) (0, 0)))) (cond (Nat.ble 196 n) (cond (Nat.ble 197 n) (cond (Nat.ble 198 n) (cond (Nat.beq n 198) (2, 60) (0, 0)) (cond (Nat.beq n 197) (1, 240) (0, 0))) (cond (Nat.beq n 196) (11, 5) (0, 0))) (cond (Nat.ble 194 n) (cond (Nat.ble 195 n) (cond (Nat.beq n 195) (2, 60) (0, 0)) (cond (Nat.beq n 194) (1, 240) (0, 0))) (cond (Nat.beq n 193) (11, 5) (0, 0))))))))) (cond (Nat.ble 97 n) (cond (Nat.ble 145 n) (cond (Nat.ble 169 n) (cond (Nat.ble 181 n) (cond (Nat.ble 187 n) (cond (Nat.ble 190 n) (cond (Nat.ble 191 n) (cond (Nat.ble 192 n) (cond (Nat.beq n 192) (2, 60) (0, 0)) (cond (Nat.beq n 191) (1, 240) (0, 0))) (cond (Nat.beq n 190) (11, 5) (0, 0))) (cond (Nat.ble 188 n) (cond (Nat.ble 189 n) (cond (Nat.beq n 189) (2, 60) (0, 0)) (cond (Nat.beq n 188) (1, 240) (0, 0))) (cond (Nat.beq n 187) (11, 5) (0, 0)))) (cond (Nat.ble 184 n) (cond (Nat.ble 185 n) (cond (Nat.ble 186 n) (cond (Nat.beq n 186) (2, 60) (0, 0)) (cond (Nat.beq n 185) (1, 240) (0, 0))) (cond (Nat.beq n 184) (11, 5) (0, 0))) (cond (Nat.ble 182 n) (cond (Nat.ble 183 n) (cond (Nat.beq n 183) (2, 60) (0, 0)) (cond (Nat.beq n 182) (1, 240) (0, 0))) (cond (Nat.beq n 181) (11, 5) (0, 0))))) (cond (Nat.ble 175 n) (cond (Nat.ble 178 n) (cond (Nat.ble 179 n) (cond (Nat.ble 180 n) (cond (Nat.beq n 180) (2, 60) (0, 0)) (cond (Nat.beq n 179) (1, 240) (0, 0))) (cond (Nat.beq n 178) (11, 5) (0, 0))) (cond (Nat.ble 176 n) (cond (Nat.ble 177 n) (cond (Nat.beq n 177) (2, 60) (0, 0)) (cond (Nat.beq n 176) (1, 240) (0, 0))) (cond (Nat.beq n 175) (11, 5) (0, 0)))) (cond (Nat.ble 172 n) (cond (Nat.ble 173 n) (cond (Nat.ble 174 n) (cond (Nat.beq n 174) (2, 60) (0, 0)) (cond (Nat.beq n 173) (1, 240) (0, 0))) (cond (Nat.beq n 172) (11, 5) (0, 0))) (cond (Nat.ble 170 n) (cond (Nat.ble 171 n) (cond (Nat.beq n 171) (2, 60) (0, 0)) (cond (Nat.beq n 170) (1, 240) (0, 0))) (cond (Nat.beq n 169) (11, 5) (0, 0)))))) (cond (Nat.ble 157 n) (cond (Nat.ble 163 n) (cond (Nat.ble 166 n) (cond (Nat.ble 167 n) (cond (Nat.ble 168 n) (cond (Nat.beq n 168) (2, 60) (0, 0)) (cond (Nat.beq n 167) (1, 240) (0, 0))) (cond (Nat.beq n 166) (11, 5) (0, 0))) (cond (Nat.ble 164 n) (cond (Nat.ble 165 n) (cond (Nat.beq n 165) (2, 60) (0, 0)) (cond (Nat.beq n 164) (1, 240) (0, 0))) (cond (Nat.beq n 163) (11, 5) (0, 0)))) (cond (Nat.ble 160 n) (cond (Nat.ble 161 n) (cond (Nat.ble 162 n) (cond (Nat.beq n 162) (2, 60) (0, 0)) (cond (Nat.beq n 161) (1, 240) (0, 0))) (cond (Nat.beq n 160) (11, 5) (0, 0))) (cond (Nat.ble 158 n) (cond (Nat.ble 159 n) (cond (Nat.beq n 159) (2, 60) (0, 0)) (cond (Nat.beq n 158) (1, 240) (0, 0))) (cond (Nat.beq n 157) (11, 5) (0, 0))))) (cond (Nat.ble 151 n) (cond (Nat.ble 154 n) (cond (Nat.ble 155 n) (cond (Nat.ble 156 n) (cond (Nat.beq n 156) (2, 60) (0, 0)) (cond (Nat.beq n 155) (1, 240) (0, 0))) (cond (Nat.beq n 154) (11, 5) (0, 0))) (cond (Nat.ble 152 n) (cond (Nat.ble 153 n) (cond (Nat.beq n 153) (2, 60) (0, 0)) (cond (Nat.beq n 152) (1, 240) (0, 0))) (cond (Nat.beq n 151) (11, 5) (0, 0)))) (cond (Nat.ble 148 n) (cond (Nat.ble 149 n) (cond (Nat.ble 150 n) (cond (Nat.beq n 150) (2, 60) (0, 0)) (cond (Nat.beq n 149) (1, 240) (0, 0))) (cond (Nat.beq n 148) (11, 5) (0, 0))) (cond (Nat.ble 146 n) (cond (Nat.ble 147 n) (cond (Nat.beq n 147) (2, 60) (0, 0)) (cond (Nat.beq n 146) (1, 240) (0, 0))) (cond (Nat.beq n 145) (11, 5) (0, 0))))))) (cond (Nat.ble 121 n) (cond (Nat.ble 133 n) (cond (Nat.ble 139 n) (cond (Nat.ble 142 n) (cond (Nat.ble 143 n) (cond (Nat.ble 144 n) (cond (Nat.beq n 144) (2, 60) (0, 0)) (cond (Nat.beq n 143) (1, 240) (0, 0))) (cond (Nat.beq n 142) (11, 5) (0, 0))) (cond (Nat.ble 140 n) (cond (Nat.ble 141 n) (cond (Nat.beq n 141) (2, 60) (0, 0)) (cond (Nat.beq n 140) (1, 240) (0, 0))) (cond (Nat.beq n 139) (11, 5) (0, 0)))) (cond (Nat.ble 136 n) (cond (Nat.ble 137 n) (cond (Nat.ble 138 n) (cond (Nat.beq n 138) (2, 60) (0, 0)) (cond (Nat.beq n 137) (1, 240) (0, 0))) (cond (Nat.beq n 136) (11, 5) (0, 0))) (cond (Nat.ble 134 n) (cond (Nat.ble 135 n) (cond (Nat.beq n 135) (2, 60) (0, 0)) (cond (Nat.beq n 134) (1, 240) (0, 0))) (cond (Nat.beq n 133) (11, 5) (0, 0))))) (cond (Nat.ble 127 n) (cond (Nat.ble 130 n) (cond (Nat.ble 131 n) (cond (Nat.ble 132 n) (cond (Nat.beq n 132) (2, 60) (0, 0)) (cond (Nat.beq n 131) (1, 240) (0, 0))) (cond (Nat.beq n 130) (11, 5) (0, 0))) (cond (Nat.ble 128 n) (cond (Nat.ble 129 n) (cond (Nat.beq n 129) (2, 60) (0, 0)) (cond (Nat.beq n 128) (1, 240) (0, 0))) (cond (Nat.beq n 127) (11, 5) (0, 0)))) (cond (Nat.ble 124 n) (cond (Nat.ble 125 n) (cond (Nat.ble 126 n) (cond (Nat.beq n 126) (2, 60) (0, 0)) (cond (Nat.beq n 125) (1, 240) (0, 0))) (cond (Nat.beq n 124) (11, 5) (0, 0))) (cond (Nat.ble 122 n) (cond (Nat.ble 123 n) (cond (Nat.beq n 123) (2, 60) (0, 0)) (cond (Nat.beq n 122) (1, 240) (0, 0))) (cond (Nat.beq n 121) (11, 5) (0, 0)))))) (cond (Nat.ble 109 n) (cond (Nat.ble 115 n) (cond (Nat.ble 118 n) (cond (Nat.ble 119 n) (cond (Nat.ble 120 n) (cond (Nat.beq n 120) (2, 60) (0, 0)) (cond (Nat.beq n 119) (1, 240) (0, 0))) (cond (Nat.beq n 118) (11, 5) (0, 0))) (cond (Nat.ble 116 n) (cond (Nat.ble 117 n) (cond (Nat.beq n 117) (2, 60) (0, 0)) (cond (Nat.beq n 116) (1, 240) (0, 0))) (cond (Nat.beq n 115) (11, 5) (0, 0)))) (cond (Nat.ble 112 n) (cond (Nat.ble 113 n) (cond (Nat.ble 114 n) (cond (Nat.beq n 114) (2, 60) (0, 0)) (cond (Nat.beq n 113) (1, 240) (0, 0))) (cond (Nat.beq n 112) (11, 5) (0, 0))) (cond (Nat.ble 110 n) (cond (Nat.ble 111 n) (cond (Nat.beq n 111) (2, 60) (0, 0)) (cond (Nat.beq n 110) (1, 240) (0, 0))) (cond (Nat.beq n 109) (11, 5) (0, 0))))) (cond (Nat.ble 103 n) (cond (Nat.ble 106 n) (cond (Nat.ble 107 n) (cond (Nat.ble 108 n) (cond (Nat.beq n 108) (2, 60) (0, 0)) (cond (Nat.beq n 107) (1, 240) (0, 0))) (cond (Nat.beq n 106) (11, 5) (0, 0))) (cond (Nat.ble 104 n) (cond (Nat.ble 105 n) (cond (Nat.beq n 105) (2, 60) (0, 0)) (cond (Nat.beq n 104) (1, 240) (0, 0))) (cond (Nat.beq n 103) (11, 5) (0, 0)))) (cond (Nat.ble 100 n) (cond (Nat.ble 101 n) (cond (Nat.ble 102 n) (cond (Nat.beq n 102) (2, 60) (0, 0)) (cond (Nat.beq n 101) (1, 240) (0, 0))) (cond (Nat.beq n 100) (11, 5) (0, 0))) (cond (Nat.ble 98 n) (cond (Nat.ble 99 n) (cond (Nat.beq n 99) (2, 60) (0, 0)) (cond (Nat.beq n 98) (1, 240) (0, 0))) (cond (Nat.beq n 97) (11, 5) (0, 0)))))))) (cond (Nat.ble 49 n) (cond (Nat.ble 73 n) (cond (Nat.ble 85 n) (cond (Nat.ble 91 n) (cond (Nat.ble 94 n) (cond (Nat.ble 95 n) (cond (Nat.ble 96 n) (cond (Nat.beq n 96) (2, 60) (0, 0)) (cond (Nat.beq n 95) (1, 240) (0, 0))) (cond (Nat.beq n 94) (11, 5) (0, 0))) (cond (Nat.ble 92 n) (cond (Nat.ble 93 n) (cond (Nat.beq n 93) (2, 60) (0, 0)) (cond (Nat.beq n 92) (1, 240) (0, 0))) (cond (Nat.beq n 91) (11, 5) (0, 0)))) (cond (Nat.ble 88 n) (cond (Nat.ble 89 n) (cond (Nat.ble 90 n) (cond (Nat.beq n 90) (2, 60) (0, 0)) (cond (Nat.beq n 89) (1, 240) (0, 0))) (cond (Nat.beq n 88) (11, 5) (0, 0))) (cond (Nat.ble 86 n) (cond (Nat.ble 87 n) (cond (Nat.beq n 87) (2, 60) (0, 0)) (cond (Nat.beq n 86) (1, 240) (0, 0))) (cond (Nat.beq n 85) (11, 5) (0, 0))))) (cond (Nat.ble 79 n) (cond (Nat.ble 82 n) (cond (Nat.ble 83 n) (cond (Nat.ble 84 n) (cond (Nat.beq n 84) (2, 60) (0, 0)) (cond (Nat.beq n 83) (1, 240) (0, 0))) (cond (Nat.beq n 82) (11, 5) (0, 0))) (cond (Nat.ble 80 n) (cond (Nat.ble 81 n) (cond (Nat.beq n 81) (2, 60) (0, 0)) (cond (Nat.beq n 80) (1, 240) (0, 0))) (cond (Nat.beq n 79) (11, 5) (0, 0)))) (cond (Nat.ble 76 n) (cond (Nat.ble 77 n) (cond (Nat.ble 78 n) (cond (Nat.beq n 78) (2, 60) (0, 0)) (cond (Nat.beq n 77) (1, 240) (0, 0))) (cond (Nat.beq n 76) (11, 5) (0, 0))) (cond (Nat.ble 74 n) (cond (Nat.ble 75 n) (cond (Nat.beq n 75) (2, 60) (0, 0)) (cond (Nat.beq n 74) (1, 240) (0, 0))) (cond (Nat.beq n 73) (11, 5) (0, 0)))))) (cond (Nat.ble 61 n) (cond (Nat.ble 67 n) (cond (Nat.ble 70 n) (cond (Nat.ble 71 n) (cond (Nat.ble 72 n) (cond (Nat.beq n 72) (2, 60) (0, 0)) (cond (Nat.beq n 71) (1, 240) (0, 0))) (cond (Nat.beq n 70) (11, 5) (0, 0))) (cond (Nat.ble 68 n) (cond (Nat.ble 69 n) (cond (Nat.beq n 69) (2, 60) (0, 0)) (cond (Nat.beq n 68) (1, 240) (0, 0))) (cond (Nat.beq n 67) (11, 5) (0, 0)))) (cond (Nat.ble 64 n) (cond (Nat.ble 65 n) (cond (Nat.ble 66 n) (cond (Nat.beq n 66) (2, 60) (0, 0)) (cond (Nat.beq n 65) (1, 240) (0, 0))) (cond (Nat.beq n 64) (11, 5) (0, 0))) (cond (Nat.ble 62 n) (cond (Nat.ble 63 n) (cond (Nat.beq n 63) (2, 60) (0, 0)) (cond (Nat.beq n 62) (1, 240) (0, 0))) (cond (Nat.beq n 61) (11, 5) (0, 0))))) (cond (Nat.ble 55 n) (cond (Nat.ble 58 n) (cond (Nat.ble 59 n) (cond (Nat.ble 60 n) (cond (Nat.beq n 60) (2, 60) (0, 0)) (cond (Nat.beq n 59) (1, 240) (0, 0))) (cond (Nat.beq n 58) (11, 5) (0, 0))) (cond (Nat.ble 56 n) (cond (Nat.ble 57 n) (cond (Nat.beq n 57) (2, 60) (0, 0)) (cond (Nat.beq n 56) (1, 240) (0, 0))) (cond (Nat.beq n 55) (11, 5) (0, 0)))) (cond (Nat.ble 52 n) (cond (Nat.ble 53 n) (cond (Nat.ble 54 n) (cond (Nat.beq n 54) (2, 60) (0, 0)) (cond (Nat.beq n 53) (1, 240) (0, 0))) (cond (Nat.beq n 52) (11, 5) (0, 0))) (cond (Nat.ble 50 n) (cond (Nat.ble 51 n) (cond (Nat.beq n 51) (5, 96) (0, 0)) (cond (Nat.beq n 50) (13, 8) (0, 0))) (cond (Nat.beq n 49) (4, 4) (0, 0))))))) (cond (Nat.ble 25 n) (cond (Nat.ble 37 n) (cond (Nat.ble 43 n) (cond (Nat.ble 46 n) (cond (Nat.ble 47 n) (cond (Nat.ble 48 n) (cond (Nat.beq n 48) (1, 3600) (0, 0)) (cond (Nat.beq n 47) (1, 3840) (0, 0))) (cond (Nat.beq n 46) (1, 3600) (0, 0))) (cond (Nat.ble 44 n) (cond (Nat.ble 45 n) (cond (Nat.beq n 45) (1, 3840) (0, 0)) (cond (Nat.beq n 44) (1, 3840) (0, 0))) (cond (Nat.beq n 43) (1, 3600) (0, 0)))) (cond (Nat.ble 40 n) (cond (Nat.ble 41 n) (cond (Nat.ble 42 n) (cond (Nat.beq n 42) (1, 3600) (0, 0)) (cond (Nat.beq n 41) (10, 7) (0, 0))) (cond (Nat.beq n 40) (1, 512) (0, 0))) (cond (Nat.ble 38 n) (cond (Nat.ble 39 n) (cond (Nat.beq n 39) (1, 500) (0, 0)) (cond (Nat.beq n 38) (1, 500) (0, 0))) (cond (Nat.beq n 37) (4, 500) (0, 0))))) (cond (Nat.ble 31 n) (cond (Nat.ble 34 n) (cond (Nat.ble 35 n) (cond (Nat.ble 36 n) (cond (Nat.beq n 36) (14, 5) (0, 0)) (cond (Nat.beq n 35) (2, 1) (0, 0))) (cond (Nat.beq n 34) (1, 4) (0, 0))) (cond (Nat.ble 32 n) (cond (Nat.ble 33 n) (cond (Nat.beq n 33) (11, 5) (0, 0)) (cond (Nat.beq n 32) (2, 1) (0, 0))) (cond (Nat.beq n 31) (1, 4) (0, 0)))) (cond (Nat.ble 28 n) (cond (Nat.ble 29 n) (cond (Nat.ble 30 n) (cond (Nat.beq n 30) (11, 5) (0, 0)) (cond (Nat.beq n 29) (2, 60) (0, 0))) (cond (Nat.beq n 28) (1, 240) (0, 0))) (cond (Nat.ble 26 n) (cond (Nat.ble 27 n) (cond (Nat.beq n 27) (11, 5) (0, 0)) (cond (Nat.beq n 26) (2, 3600) (0, 0))) (cond (Nat.beq n 25) (1, 14400) (0, 0)))))) (cond (Nat.ble 13 n) (cond (Nat.ble 19 n) (cond (Nat.ble 22 n) (cond (Nat.ble 23 n) (cond (Nat.ble 24 n) (cond (Nat.beq n 24) (11, 5) (0, 0)) (cond (Nat.beq n 23) (17, 10) (0, 0))) (cond (Nat.beq n 22) (1, 500) (0, 0))) (cond (Nat.ble 20 n) (cond (Nat.ble 21 n) (cond (Nat.beq n 21) (15, 2) (0, 0)) (cond (Nat.beq n 20) (2, 60) (0, 0))) (cond (Nat.beq n 19) (1, 240) (0, 0)))) (cond (Nat.ble 16 n) (cond (Nat.ble 17 n) (cond (Nat.ble 18 n) (cond (Nat.beq n 18) (11, 5) (0, 0)) (cond (Nat.beq n 17) (2, 60) (0, 0))) (cond (Nat.beq n 16) (1, 240) (0, 0))) (cond (Nat.ble 14 n) (cond (Nat.ble 15 n) (cond (Nat.beq n 15) (11, 5) (0, 0)) (cond (Nat.beq n 14) (2, 60) (0, 0))) (cond (Nat.beq n 13) (1, 240) (0, 0))))) (cond (Nat.ble 7 n) (cond (Nat.ble 10 n) (cond (Nat.ble 11 n) (cond (Nat.ble 12 n) (cond (Nat.beq n 12) (11, 5) (0, 0)) (cond (Nat.beq n 11) (2, 60) (0, 0))) (cond (Nat.beq n 10) (1, 240) (0, 0))) (cond (Nat.ble 8 n) (cond (Nat.ble 9 n) (cond (Nat.beq n 9) (11, 5) (0, 0)) (cond (Nat.beq n 8) (2, 60) (0, 0))) (cond (Nat.beq n 7) (1, 240) (0, 0)))) (cond (Nat.ble 4 n) (cond (Nat.ble 5 n) (cond (Nat.ble 6 n) (cond (Nat.beq n 6) (11, 5) (0, 0)) (cond (Nat.beq n 5) (2, 60) (0, 0))) (cond (Nat.beq n 4) (1, 240) (0, 0))) (cond (Nat.ble 2 n) (cond (Nat.ble 3 n) (cond (Nat.beq n 3) (11, 5) (0, 0)) (cond (Nat.beq n 2) (5, 6) (0, 0))) (cond (Nat.beq n 1) (18, 6) (0, 0)))))))))
def rr_ (n k : Nat) : Nat := cond (Nat.ble 175 n) (cond (Nat.ble 262 n) (cond (Nat.ble 307 n) (cond (Nat.ble 328 n) (cond (Nat.ble 340 n) (cond (Nat.ble 343 n) (cond (Nat.ble 351 n) (cond (Nat.beq n 351) (cond (Nat.ble 23 k) (cond (Nat.ble 39 k) (cond (Nat.ble 44 k) (cond (Nat.ble 46 k) (cond (Nat.ble 50 k) (cond (Nat.ble 51 k) (cond (Nat.beq k 51) (385) (0)) (cond (Nat.beq k 50) (384) (0))) (cond (Nat.beq k 46) (383) (0))) (cond (Nat.ble 45 k) (cond (Nat.beq k 45) (382) (0)) (cond (Nat.beq k 44) (381) (0)))) (cond (Nat.ble 41 k) (cond (Nat.ble 42 k) (cond (Nat.beq k 42) (380) (0)) (cond (Nat.beq k 41) (379) (0))) (cond (Nat.ble 40 k) (cond (Nat.beq k 40) (378) (0)) (cond (Nat.beq k 39) (377) (0))))) (cond (Nat.ble 29 k) (cond (Nat.ble 33 k) (cond (Nat.ble 34 k) (cond (Nat.beq k 34) (376) (0)) (cond (Nat.beq k 33) (375) (0))) (cond (Nat.ble 30 k) (cond (Nat.beq k 30) (374) (0)) (cond (Nat.beq k 29) (373) (0)))) (cond (Nat.ble 27 k) (cond (Nat.ble 28 k) (cond (Nat.beq k 28) (372) (0)) (cond (Nat.beq k 27) (371) (0))) (cond (Nat.ble 26 k) (cond (Nat.beq k 26) (370) (0)) (cond (Nat.beq k 23) (369) (0)))))) (cond (Nat.ble 12 k) (cond (Nat.ble 16 k) (cond (Nat.ble 19 k) (cond (Nat.ble 20 k) (cond (Nat.ble 21 k) (cond (Nat.beq k 21) (368) (0)) (cond (Nat.beq k 20) (367) (0))) (cond (Nat.beq k 19) (366) (0))) (cond (Nat.ble 17 k) (cond (Nat.beq k 17) (365) (0)) (cond (Nat.beq k 16) (364) (0)))) (cond (Nat.ble 14 k) (cond (Nat.ble 15 k) (cond (Nat.beq k 15) (363) (0)) (cond (Nat.beq k 14) (362) (0))) (cond (Nat.ble 13 k) (cond (Nat.beq k 13) (361) (0)) (cond (Nat.beq k 12) (360) (0))))) (cond (Nat.ble 5 k) (cond (Nat.ble 10 k) (cond (Nat.ble 11 k) (cond (Nat.beq k 11) (359) (0)) (cond (Nat.beq k 10) (358) (0))) (cond (Nat.ble 6 k) (cond (Nat.beq k 6) (357) (0)) (cond (Nat.beq k 5) (356) (0)))) (cond (Nat.ble 3 k) (cond (Nat.ble 4 k) (cond (Nat.beq k 4) (355) (0)) (cond (Nat.beq k 3) (354) (0))) (cond (Nat.ble 2 k) (cond (Nat.beq k 2) (353) (0)) (cond (Nat.beq k 1) (352) (0))))))) (0)) (cond (Nat.beq n 343) (cond (Nat.beq k 0) 344 (cond (Nat.beq k 1) 345 0)) (0))) (cond (Nat.ble 342 n) (cond (Nat.beq n 342) (cond (Nat.ble 3 k) (cond (Nat.ble 4 k) (cond (Nat.ble 5 k) (cond (Nat.beq k 5) (350) (0)) (cond (Nat.beq k 4) (349) (0))) (cond (Nat.beq k 3) (348) (0))) (cond (Nat.ble 1 k) (cond (Nat.ble 2 k) (cond (Nat.beq k 2) (347) (0)) (cond (Nat.beq k 1) (346) (0))) (cond (Nat.beq k 0) (343) (0)))) (0)) (cond (Nat.beq n 340) (cond (Nat.beq k 0) (341) (0)) (0)))) (cond (Nat.ble 334 n) (cond (Nat.ble 337 n) (cond (Nat.beq n 337) (cond (Nat.beq k 0) 338 (cond (Nat.beq k 1) 339 0)) (0)) (cond (Nat.beq n 334) (cond (Nat.beq k 0) 335 (cond (Nat.beq k 1) 336 0)) (0))) (cond (Nat.ble 331 n) (cond (Nat.beq n 331) (cond (Nat.beq k 0) 332 (cond (Nat.beq k 1) 333 0)) (0)) (cond (Nat.beq n 328) (cond (Nat.beq k 0) 329 (cond (Nat.beq k 1) 330 0)) (0))))) (cond (Nat.ble 316 n) (cond (Nat.ble 322 n) (cond (Nat.ble 325 n) (cond (Nat.beq n 325) (cond (Nat.beq k 0) 326 (cond (Nat.beq k 1) 327 0)) (0)) (cond (Nat.beq n 322) (cond (Nat.beq k 0) 323 (cond (Nat.beq k 1) 324 0)) (0))) (cond (Nat.ble 319 n) (cond (Nat.beq n 319) (cond (Nat.beq k 0) 320 (cond (Nat.beq k 1) 321 0)) (0)) (cond (Nat.beq n 316) (cond (Nat.beq k 0) 317 (cond (Nat.beq k 1) 318 0)) (0)))) (cond (Nat.ble 310 n) (cond (Nat.ble 313 n) (cond (Nat.beq n 313) (cond (Nat.beq k 0) 314 (cond (Nat.beq k 1) 315 0)) (0)) (cond (Nat.beq n 310) (cond (Nat.beq k 0) 311 (cond (Nat.beq k 1) 312 0)) (0))) (cond (Nat.beq n 307) (cond (Nat.beq k 0) 308 (cond (Nat.beq k 1) 309 0)) (0))))) (cond (Nat.ble 283 n) (cond (Nat.ble 295 n) (cond (Nat.ble 301 n) (cond (Nat.ble 304 n) (cond (Nat.beq n 304) (cond (Nat.beq k 0) 305 (cond (Nat.beq k 1) 306 0)) (0)) (cond (Nat.beq n 301) (cond (Nat.beq k 0) 302 (cond (Nat.beq k 1) 303 0)) (0))) (cond (Nat.ble 298 n) (cond (Nat.beq n 298) (cond (Nat.beq k 0) 299 (cond (Nat.beq k 1) 300 0)) (0)) (cond (Nat.beq n 295) (cond (Nat.beq k 0) 296 (cond (Nat.beq k 1) 297 0)) (0)))) (cond (Nat.ble 289 n) (cond (Nat.ble 292 n) (cond (Nat.beq n 292) (cond (Nat.beq k 0) 293 (cond (Nat.beq k 1) 294 0)) (0)) (cond (Nat.beq n 289) (cond (Nat.beq k 0) 290 (cond (Nat.beq k 1) 291 0)) (0))) (cond (Nat.ble 286 n) (cond (Nat.beq n 286) (cond (Nat.beq k 0) 287 (cond (Nat.beq k 1) 288 0)) (0)) (cond (Nat.beq n 283) (cond (Nat.beq k 0) 284 (cond (Nat.beq k 1) 285 0)) (0))))) (cond (Nat.ble 271 n) (cond (Nat.ble 277 n) (cond (Nat.ble 280 n) (cond (Nat.beq n 280) (cond (Nat.beq k 0) 281 (cond (Nat.beq k 1) 282 0)) (0)) (cond (Nat.beq n 277) (cond (Nat.beq k 0) 278 (cond (Nat.beq k 1) 279 0)) (0))) (cond (Nat.ble 274 n) (cond (Nat.beq n 274) (cond (Nat.beq k 0) 275 (cond (Nat.beq k 1) 276 0)) (0)) (cond (Nat.beq n 271) (cond (Nat.beq k 0) 272 (cond (Nat.beq k 1) 273 0)) (0)))) (cond (Nat.ble 265 n) (cond (Nat.ble 268 n) (cond (Nat.beq n 268) (cond (Nat.beq k 0) 269 (cond (Nat.beq k 1) 270 0)) (0)) (cond (Nat.beq n 265) (cond (Nat.beq k 0) 266 (cond (Nat.beq k 1) 267 0)) (0))) (cond (Nat.beq n 262) (cond (Nat.beq k 0) 263 (cond (Nat.beq k 1) 264 0)) (0)))))) (cond (Nat.ble 217 n) (cond (Nat.ble 238 n) (cond (Nat.ble 250 n) (cond (Nat.ble 256 n) (cond (Nat.ble 259 n) (cond (Nat.beq n 259) (cond (Nat.beq k 0) 260 (cond (Nat.beq k 1) 261 0)) (0)) (cond (Nat.beq n 256) (cond (Nat.beq k 0) 257 (cond (Nat.beq k 1) 258 0)) (0))) (cond (Nat.ble 253 n) (cond (Nat.beq n 253) (cond (Nat.beq k 0) 254 (cond (Nat.beq k 1) 255 0)) (0)) (cond (Nat.beq n 250) (cond (Nat.beq k 0) 251 (cond (Nat.beq k 1) 252 0)) (0)))) (cond (Nat.ble 244 n) (cond (Nat.ble 247 n) (cond (Nat.beq n 247) (cond (Nat.beq k 0) 248 (cond (Nat.beq k 1) 249 0)) (0)) (cond (Nat.beq n 244) (cond (Nat.beq k 0) 245 (cond (Nat.beq k 1) 246 0)) (0))) (cond (Nat.ble 241 n) (cond (Nat.beq n 241) (cond (Nat.beq k 0) 242 (cond (Nat.beq k 1) 243 0)) (0)) (cond (Nat.beq n 238) (cond (Nat.beq k 0) 239 (cond (Nat.beq k 1) 240 0)) (0))))) (cond (Nat.ble 226 n) (cond (Nat.ble 232 n) (cond (Nat.ble 235 n) (cond (Nat.beq n 235) (cond (Nat.beq k 0) 236 (cond (Nat.beq k 1) 237 0)) (0)) (cond (Nat.beq n 232) (cond (Nat.beq k 0) 233 (cond (Nat.beq k 1) 234 0)) (0))) (cond (Nat.ble 229 n) (cond (Nat.beq n 229) (cond (Nat.beq k 0) 230 (cond (Nat.beq k 1) 231 0)) (0)) (cond (Nat.beq n 226) (cond (Nat.beq k 0) 227 (cond (Nat.beq k 1) 228 0)) (0)))) (cond (Nat.ble 220 n) (cond (Nat.ble 223 n) (cond (Nat.beq n 223) (cond (Nat.beq k 0) 224 (cond (Nat.beq k 1) 225 0)) (0)) (cond (Nat.beq n 220) (cond (Nat.beq k 0) 221 (cond (Nat.beq k 1) 222 0)) (0))) (cond (Nat.beq n 217) (cond (Nat.beq k 0) 218 (cond (Nat.beq k 1) 219 0)) (0))))) (cond (Nat.ble 196 n) (cond (Nat.ble 205 n) (cond (Nat.ble 211 n) (cond (Nat.ble 214 n) (cond (Nat.beq n 214) (cond (Nat.beq k 0) 215 (cond (Nat.beq k 1) 216 0)) (0)) (cond (Nat.beq n 211) (cond (Nat.beq k 0) 212 (cond (Nat.beq k 1) 213 0)) (0))) (cond (Nat.ble 208 n) (cond (Nat.beq n 208) (cond (Nat.beq k 0) 209 (cond (Nat.beq k 1) 210 0)) (0)) (cond (Nat.beq n 205) (cond (Nat.beq k 0) 206 (cond (Nat.beq k 1) 207 0)) (0)))) (cond (Nat.ble 199 n) (cond (Nat.ble 202 n) (cond (Nat.beq n 202) (cond (Nat.beq k 0) 203 (cond (Nat.beq k 1) 204 0)) (0)) (cond (Nat.beq n 199) (cond (Nat.beq k 0) 200 (cond (Nat.beq k 1) 201 0)) (0))) (cond (Nat.beq n 196) (cond (Nat.beq k 0) 197 (cond (Nat.beq k 1) 198 0)) (0)))) (cond (Nat.ble 184 n) (cond (Nat.ble 190 n) (cond (Nat.ble 193 n) (cond (Nat.beq n 193) (cond (Nat.beq k 0) 194 (cond (Nat.beq k 1) 195 0)) (0)) (cond (Nat.beq n 190) (cond (Nat.beq k 0) 191 (cond (Nat.beq k 1) 192 0)) (0))) (cond (Nat.ble 187 n) (cond (Nat.beq n 187) (cond (Nat.beq k 0) 188 (cond (Nat.beq k 1) 189 0)) (0)) (cond (Nat.beq n 184) (cond (Nat.beq k 0) 185 (cond (Nat.beq k 1) 186 0)) (0)))) (cond (Nat.ble 178 n) (cond (Nat.ble 181 n) (cond (Nat.beq n 181) (cond (Nat.beq k 0) 182 (cond (Nat.beq k 1) 183 0)) (0)) (cond (Nat.beq n 178) (cond (Nat.beq k 0) 179 (cond (Nat.beq k 1) 180 0)) (0))) (cond (Nat.beq n 175) (cond (Nat.beq k 0) 176 (cond (Nat.beq k 1) 177 0)) (0))))))) (cond (Nat.ble 85 n) (cond (Nat.ble 130 n) (cond (Nat.ble 151 n) (cond (Nat.ble 163 n) (cond (Nat.ble 169 n) (cond (Nat.ble 172 n) (cond (Nat.beq n 172) (cond (Nat.beq k 0) 173 (cond (Nat.beq k 1) 174 0)) (0)) (cond (Nat.beq n 169) (cond (Nat.beq k 0) 170 (cond (Nat.beq k 1) 171 0)) (0))) (cond (Nat.ble 166 n) (cond (Nat.beq n 166) (cond (Nat.beq k 0) 167 (cond (Nat.beq k 1) 168 0)) (0)) (cond (Nat.beq n 163) (cond (Nat.beq k 0) 164 (cond (Nat.beq k 1) 165 0)) (0)))) (cond (Nat.ble 157 n) (cond (Nat.ble 160 n) (cond (Nat.beq n 160) (cond (Nat.beq k 0) 161 (cond (Nat.beq k 1) 162 0)) (0)) (cond (Nat.beq n 157) (cond (Nat.beq k 0) 158 (cond (Nat.beq k 1) 159 0)) (0))) (cond (Nat.ble 154 n) (cond (Nat.beq n 154) (cond (Nat.beq k 0) 155 (cond (Nat.beq k 1) 156 0)) (0)) (cond (Nat.beq n 151) (cond (Nat.beq k 0) 152 (cond (Nat.beq k 1) 153 0)) (0))))) (cond (Nat.ble 139 n) (cond (Nat.ble 145 n) (cond (Nat.ble 148 n) (cond (Nat.beq n 148) (cond (Nat.beq k 0) 149 (cond (Nat.beq k 1) 150 0)) (0)) (cond (Nat.beq n 145) (cond (Nat.beq k 0) 146 (cond (Nat.beq k 1) 147 0)) (0))) (cond (Nat.ble 142 n) (cond (Nat.beq n 142) (cond (Nat.beq k 0) 143 (cond (Nat.beq k 1) 144 0)) (0)) (cond (Nat.beq n 139) (cond (Nat.beq k 0) 140 (cond (Nat.beq k 1) 141 0)) (0)))) (cond (Nat.ble 133 n) (cond (Nat.ble 136 n) (cond (Nat.beq n 136) (cond (Nat.beq k 0) 137 (cond (Nat.beq k 1) 138 0)) (0)) (cond (Nat.beq n 133) (cond (Nat.beq k 0) 134 (cond (Nat.beq k 1) 135 0)) (0))) (cond (Nat.beq n 130) (cond (Nat.beq k 0) 131 (cond (Nat.beq k 1) 132 0)) (0))))) (cond (Nat.ble 106 n) (cond (Nat.ble 118 n) (cond (Nat.ble 124 n) (cond (Nat.ble 127 n) (cond (Nat.beq n 127) (cond (Nat.beq k 0) 128 (cond (Nat.beq k 1) 129 0)) (0)) (cond (Nat.beq n 124) (cond (Nat.beq k 0) 125 (cond (Nat.beq k 1) 126 0)) (0))) (cond (Nat.ble 121 n) (cond (Nat.beq n 121) (cond (Nat.beq k 0) 122 (cond (Nat.beq k 1) 123 0)) (0)) (cond (Nat.beq n 118) (cond (Nat.beq k 0) 119 (cond (Nat.beq k 1) 120 0)) (0)))) (cond (Nat.ble 112 n) (cond (Nat.ble 115 n) (cond (Nat.beq n 115) (cond (Nat.beq k 0) 116 (cond (Nat.beq k 1) 117 0)) (0)) (cond (Nat.beq n 112) (cond (Nat.beq k 0) 113 (cond (Nat.beq k 1) 114 0)) (0))) (cond (Nat.ble 109 n) (cond (Nat.beq n 109) (cond (Nat.beq k 0) 110 (cond (Nat.beq k 1) 111 0)) (0)) (cond (Nat.beq n 106) (cond (Nat.beq k 0) 107 (cond (Nat.beq k 1) 108 0)) (0))))) (cond (Nat.ble 94 n) (cond (Nat.ble 100 n) (cond (Nat.ble 103 n) (cond (Nat.beq n 103) (cond (Nat.beq k 0) 104 (cond (Nat.beq k 1) 105 0)) (0)) (cond (Nat.beq n 100) (cond (Nat.beq k 0) 101 (cond (Nat.beq k 1) 102 0)) (0))) (cond (Nat.ble 97 n) (cond (Nat.beq n 97) (cond (Nat.beq k 0) 98 (cond (Nat.beq k 1) 99 0)) (0)) (cond (Nat.beq n 94) (cond (Nat.beq k 0) 95 (cond (Nat.beq k 1) 96 0)) (0)))) (cond (Nat.ble 88 n) (cond (Nat.ble 91 n) (cond (Nat.beq n 91) (cond (Nat.beq k 0) 92 (cond (Nat.beq k 1) 93 0)) (0)) (cond (Nat.beq n 88) (cond (Nat.beq k 0) 89 (cond (Nat.beq k 1) 90 0)) (0))) (cond (Nat.beq n 85) (cond (Nat.beq k 0) 86 (cond (Nat.beq k 1) 87 0)) (0)))))) (cond (Nat.ble 36 n) (cond (Nat.ble 61 n) (cond (Nat.ble 73 n) (cond (Nat.ble 79 n) (cond (Nat.ble 82 n) (cond (Nat.beq n 82) (cond (Nat.beq k 0) 83 (cond (Nat.beq k 1) 84 0)) (0)) (cond (Nat.beq n 79) (cond (Nat.beq k 0) 80 (cond (Nat.beq k 1) 81 0)) (0))) (cond (Nat.ble 76 n) (cond (Nat.beq n 76) (cond (Nat.beq k 0) 77 (cond (Nat.beq k 1) 78 0)) (0)) (cond (Nat.beq n 73) (cond (Nat.beq k 0) 74 (cond (Nat.beq k 1) 75 0)) (0)))) (cond (Nat.ble 67 n) (cond (Nat.ble 70 n) (cond (Nat.beq n 70) (cond (Nat.beq k 0) 71 (cond (Nat.beq k 1) 72 0)) (0)) (cond (Nat.beq n 67) (cond (Nat.beq k 0) 68 (cond (Nat.beq k 1) 69 0)) (0))) (cond (Nat.ble 64 n) (cond (Nat.beq n 64) (cond (Nat.beq k 0) 65 (cond (Nat.beq k 1) 66 0)) (0)) (cond (Nat.beq n 61) (cond (Nat.beq k 0) 62 (cond (Nat.beq k 1) 63 0)) (0))))) (cond (Nat.ble 51 n) (cond (Nat.ble 55 n) (cond (Nat.ble 58 n) (cond (Nat.beq n 58) (cond (Nat.beq k 0) 59 (cond (Nat.beq k 1) 60 0)) (0)) (cond (Nat.beq n 55) (cond (Nat.beq k 0) 56 (cond (Nat.beq k 1) 57 0)) (0))) (cond (Nat.ble 52 n) (cond (Nat.beq n 52) (cond (Nat.beq k 0) 53 (cond (Nat.beq k 1) 54 0)) (0)) (cond (Nat.beq n 51) (cond (Nat.ble 48 k) (cond (Nat.ble 72 k) (cond (Nat.ble 84 k) (cond (Nat.ble 90 k) (cond (Nat.ble 93 k) (cond (Nat.ble 94 k) (cond (Nat.ble 95 k) (cond (Nat.beq k 95) (337) (0)) (cond (Nat.beq k 94) (334) (0))) (cond (Nat.beq k 93) (331) (0))) (cond (Nat.ble 91 k) (cond (Nat.ble 92 k) (cond (Nat.beq k 92) (328) (0)) (cond (Nat.beq k 91) (325) (0))) (cond (Nat.beq k 90) (322) (0)))) (cond (Nat.ble 87 k) (cond (Nat.ble 88 k) (cond (Nat.ble 89 k) (cond (Nat.beq k 89) (319) (0)) (cond (Nat.beq k 88) (316) (0))) (cond (Nat.beq k 87) (313) (0))) (cond (Nat.ble 85 k) (cond (Nat.ble 86 k) (cond (Nat.beq k 86) (310) (0)) (cond (Nat.beq k 85) (307) (0))) (cond (Nat.beq k 84) (304) (0))))) (cond (Nat.ble 78 k) (cond (Nat.ble 81 k) (cond (Nat.ble 82 k) (cond (Nat.ble 83 k) (cond (Nat.beq k 83) (301) (0)) (cond (Nat.beq k 82) (298) (0))) (cond (Nat.beq k 81) (295) (0))) (cond (Nat.ble 79 k) (cond (Nat.ble 80 k) (cond (Nat.beq k 80) (292) (0)) (cond (Nat.beq k 79) (289) (0))) (cond (Nat.beq k 78) (286) (0)))) (cond (Nat.ble 75 k) (cond (Nat.ble 76 k) (cond (Nat.ble 77 k) (cond (Nat.beq k 77) (283) (0)) (cond (Nat.beq k 76) (280) (0))) (cond (Nat.beq k 75) (277) (0))) (cond (Nat.ble 73 k) (cond (Nat.ble 74 k) (cond (Nat.beq k 74) (274) (0)) (cond (Nat.beq k 73) (271) (0))) (cond (Nat.beq k 72) (268) (0)))))) (cond (Nat.ble 60 k) (cond (Nat.ble 66 k) (cond (Nat.ble 69 k) (cond (Nat.ble 70 k) (cond (Nat.ble 71 k) (cond (Nat.beq k 71) (265) (0)) (cond (Nat.beq k 70) (262) (0))) (cond (Nat.beq k 69) (259) (0))) (cond (Nat.ble 67 k) (cond (Nat.ble 68 k) (cond (Nat.beq k 68) (256) (0)) (cond (Nat.beq k 67) (253) (0))) (cond (Nat.beq k 66) (250) (0)))) (cond (Nat.ble 63 k) (cond (Nat.ble 64 k) (cond (Nat.ble 65 k) (cond (Nat.beq k 65) (247) (0)) (cond (Nat.beq k 64) (244) (0))) (cond (Nat.beq k 63) (241) (0))) (cond (Nat.ble 61 k) (cond (Nat.ble 62 k) (cond (Nat.beq k 62) (238) (0)) (cond (Nat.beq k 61) (235) (0))) (cond (Nat.beq k 60) (232) (0))))) (cond (Nat.ble 54 k) (cond (Nat.ble 57 k) (cond (Nat.ble 58 k) (cond (Nat.ble 59 k) (cond (Nat.beq k 59) (229) (0)) (cond (Nat.beq k 58) (226) (0))) (cond (Nat.beq k 57) (223) (0))) (cond (Nat.ble 55 k) (cond (Nat.ble 56 k) (cond (Nat.beq k 56) (220) (0)) (cond (Nat.beq k 55) (217) (0))) (cond (Nat.beq k 54) (214) (0)))) (cond (Nat.ble 51 k) (cond (Nat.ble 52 k) (cond (Nat.ble 53 k) (cond (Nat.beq k 53) (211) (0)) (cond (Nat.beq k 52) (208) (0))) (cond (Nat.beq k 51) (205) (0))) (cond (Nat.ble 49 k) (cond (Nat.ble 50 k) (cond (Nat.beq k 50) (202) (0)) (cond (Nat.beq k 49) (199) (0))) (cond (Nat.beq k 48) (196) (0))))))) (cond (Nat.ble 24 k) (cond (Nat.ble 36 k) (cond (Nat.ble 42 k) (cond (Nat.ble 45 k) (cond (Nat.ble 46 k) (cond (Nat.ble 47 k) (cond (Nat.beq k 47) (193) (0)) (cond (Nat.beq k 46) (190) (0))) (cond (Nat.beq k 45) (187) (0))) (cond (Nat.ble 43 k) (cond (Nat.ble 44 k) (cond (Nat.beq k 44) (184) (0)) (cond (Nat.beq k 43) (181) (0))) (cond (Nat.beq k 42) (178) (0)))) (cond (Nat.ble 39 k) (cond (Nat.ble 40 k) (cond (Nat.ble 41 k) (cond (Nat.beq k 41) (175) (0)) (cond (Nat.beq k 40) (172) (0))) (cond (Nat.beq k 39) (169) (0))) (cond (Nat.ble 37 k) (cond (Nat.ble 38 k) (cond (Nat.beq k 38) (166) (0)) (cond (Nat.beq k 37) (163) (0))) (cond (Nat.beq k 36) (160) (0))))) (cond (Nat.ble 30 k) (cond (Nat.ble 33 k) (cond (Nat.ble 34 k) (cond (Nat.ble 35 k) (cond (Nat.beq k 35) (157) (0)) (cond (Nat.beq k 34) (154) (0))) (cond (Nat.beq k 33) (151) (0))) (cond (Nat.ble 31 k) (cond (Nat.ble 32 k) (cond (Nat.beq k 32) (148) (0)) (cond (Nat.beq k 31) (145) (0))) (cond (Nat.beq k 30) (142) (0)))) (cond (Nat.ble 27 k) (cond (Nat.ble 28 k) (cond (Nat.ble 29 k) (cond (Nat.beq k 29) (139) (0)) (cond (Nat.beq k 28) (136) (0))) (cond (Nat.beq k 27) (133) (0))) (cond (Nat.ble 25 k) (cond (Nat.ble 26 k) (cond (Nat.beq k 26) (130) (0)) (cond (Nat.beq k 25) (127) (0))) (cond (Nat.beq k 24) (124) (0)))))) (cond (Nat.ble 12 k) (cond (Nat.ble 18 k) (cond (Nat.ble 21 k) (cond (Nat.ble 22 k) (cond (Nat.ble 23 k) (cond (Nat.beq k 23) (121) (0)) (cond (Nat.beq k 22) (118) (0))) (cond (Nat.beq k 21) (115) (0))) (cond (Nat.ble 19 k) (cond (Nat.ble 20 k) (cond (Nat.beq k 20) (112) (0)) (cond (Nat.beq k 19) (109) (0))) (cond (Nat.beq k 18) (106) (0)))) (cond (Nat.ble 15 k) (cond (Nat.ble 16 k) (cond (Nat.ble 17 k) (cond (Nat.beq k 17) (103) (0)) (cond (Nat.beq k 16) (100) (0))) (cond (Nat.beq k 15) (97) (0))) (cond (Nat.ble 13 k) (cond (Nat.ble 14 k) (cond (Nat.beq k 14) (94) (0)) (cond (Nat.beq k 13) (91) (0))) (cond (Nat.beq k 12) (88) (0))))) (cond (Nat.ble 6 k) (cond (Nat.ble 9 k) (cond (Nat.ble 10 k) (cond (Nat.ble 11 k) (cond (Nat.beq k 11) (85) (0)) (cond (Nat.beq k 10) (82) (0))) (cond (Nat.beq k 9) (79) (0))) (cond (Nat.ble 7 k) (cond (Nat.ble 8 k) (cond (Nat.beq k 8) (76) (0)) (cond (Nat.beq k 7) (73) (0))) (cond (Nat.beq k 6) (70) (0)))) (cond (Nat.ble 3 k) (cond (Nat.ble 4 k) (cond (Nat.ble 5 k) (cond (Nat.beq k 5) (67) (0)) (cond (Nat.beq k 4) (64) (0))) (cond (Nat.beq k 3) (61) (0))) (cond (Nat.ble 1 k) (cond (Nat.ble 2 k) (cond (Nat.beq k 2) (58) (0)) (cond (Nat.beq k 1) (55) (0))) (cond (Nat.beq k 0) (52) (0)))))))) (0)))) (cond (Nat.ble 41 n) (cond (Nat.ble 50 n) (cond (Nat.beq n 50) (cond (Nat.ble 1 k) (cond (Nat.ble 2 k) (cond (Nat.beq k 2) (51) (0)) (cond (Nat.beq k 1) (21) (0))) (cond (Nat.beq k 0) (23) (0))) (0)) (cond (Nat.beq n 41) (cond (Nat.ble 2 k) (cond (Nat.ble 3 k) (cond (Nat.beq k 3) (45) (0)) (cond (Nat.beq k 2) (44) (0))) (cond (Nat.ble 1 k) (cond (Nat.beq k 1) (43) (0)) (cond (Nat.beq k 0) (42) (0)))) (0))) (cond (Nat.beq n 36) (cond (Nat.ble 2 k) (cond (Nat.ble 3 k) (cond (Nat.beq k 3) (40) (0)) (cond (Nat.beq k 2) (39) (0))) (cond (Nat.ble 1 k) (cond (Nat.beq k 1) (38) (0)) (cond (Nat.beq k 0) (37) (0)))) (0))))) (cond (Nat.ble 18 n) (cond (Nat.ble 24 n) (cond (Nat.ble 30 n) (cond (Nat.ble 33 n) (cond (Nat.beq n 33) (cond (Nat.beq k 0) 34 (cond (Nat.beq k 1) 35 0)) (0)) (cond (Nat.beq n 30) (cond (Nat.beq k 0) 31 (cond (Nat.beq k 1) 32 0)) (0))) (cond (Nat.ble 27 n) (cond (Nat.beq n 27) (cond (Nat.beq k 0) 28 (cond (Nat.beq k 1) 29 0)) (0)) (cond (Nat.beq n 24) (cond (Nat.beq k 0) 25 (cond (Nat.beq k 1) 26 0)) (0)))) (cond (Nat.ble 21 n) (cond (Nat.ble 23 n) (cond (Nat.beq n 23) (cond (Nat.ble 5 k) (cond (Nat.ble 7 k) (cond (Nat.ble 8 k) (cond (Nat.ble 9 k) (cond (Nat.beq k 9) (49) (0)) (cond (Nat.beq k 8) (48) (0))) (cond (Nat.beq k 7) (47) (0))) (cond (Nat.ble 6 k) (cond (Nat.beq k 6) (46) (0)) (cond (Nat.beq k 5) (41) (0)))) (cond (Nat.ble 2 k) (cond (Nat.ble 3 k) (cond (Nat.ble 4 k) (cond (Nat.beq k 4) (36) (0)) (cond (Nat.beq k 3) (33) (0))) (cond (Nat.beq k 2) (30) (0))) (cond (Nat.ble 1 k) (cond (Nat.beq k 1) (27) (0)) (cond (Nat.beq k 0) (24) (0))))) (0)) (cond (Nat.beq n 21) (cond (Nat.beq k 0) (22) (0)) (0))) (cond (Nat.beq n 18) (cond (Nat.beq k 0) 19 (cond (Nat.beq k 1) 20 0)) (0)))) (cond (Nat.ble 6 n) (cond (Nat.ble 12 n) (cond (Nat.ble 15 n) (cond (Nat.beq n 15) (cond (Nat.beq k 0) 16 (cond (Nat.beq k 1) 17 0)) (0)) (cond (Nat.beq n 12) (cond (Nat.beq k 0) 13 (cond (Nat.beq k 1) 14 0)) (0))) (cond (Nat.ble 9 n) (cond (Nat.beq n 9) (cond (Nat.beq k 0) 10 (cond (Nat.beq k 1) 11 0)) (0)) (cond (Nat.beq n 6) (cond (Nat.beq k 0) 7 (cond (Nat.beq k 1) 8 0)) (0)))) (cond (Nat.ble 2 n) (cond (Nat.ble 3 n) (cond (Nat.beq n 3) (cond (Nat.beq k 0) 4 (cond (Nat.beq k 1) 5 0)) (0)) (cond (Nat.beq n 2) (cond (Nat.ble 3 k) (cond (Nat.ble 4 k) (cond (Nat.ble 5 k) (cond (Nat.beq k 5) (18) (0)) (cond (Nat.beq k 4) (15) (0))) (cond (Nat.beq k 3) (12) (0))) (cond (Nat.ble 1 k) (cond (Nat.ble 2 k) (cond (Nat.beq k 2) (9) (0)) (cond (Nat.beq k 1) (6) (0))) (cond (Nat.beq k 0) (3) (0)))) (0))) (cond (Nat.beq n 1) (cond (Nat.ble 3 k) (cond (Nat.ble 4 k) (cond (Nat.ble 5 k) (cond (Nat.beq k 5) (342) (0)) (cond (Nat.beq k 4) (340) (0))) (cond (Nat.beq k 3) (50) (0))) (cond (Nat.ble 1 k) (cond (Nat.ble 2 k) (cond (Nat.beq k 2) (23) (0)) (cond (Nat.beq k 1) (21) (0))) (cond (Nat.beq k 0) (2) (0)))) (0)))))))
/-! THE QUIET MACHINE: behind the constructors no cell is made and no reference is written; what moves is ints and longs alone -/
abbrev dy_ : Type := (Nat → Nat → Int32) × (Nat → Nat → Int64)
abbrev rd_ : Type := Option (Option Value × dy_)
def hq_ (D : dy_) : hp_ := (shp_, rr_, D.1, D.2, zz_, ss_)
def dn_ (h : hp_) : dy_ := (h.2.2.1, h.2.2.2.1)
theorem dn_hq (D : dy_) : dn_ (hq_ D) = D := rfl
def qt_ (e : en_) : Bool := match e.1 with
  | 14 => e.2.2.2.2.1 != 2
  | 16 => e.2.2.1 != 5
  | 21 => false
  | 22 => false
  | _ => true
theorem qg_ {mt : mt_} {N : Nat} (h0 : ∀ pc, N ≤ pc → mt.1 pc = (99, 0, 0, 0, 0, 0)) (h1 : (List.range N).all (fun pc => qt_ (mt.1 pc)) = true) (pc : Nat) : qt_ (mt.1 pc) = true := by
  by_cases h : pc < N
  · exact List.all_eq_true.mp h1 pc (List.mem_range.mpr h)
  · rw [h0 pc (Nat.not_lt.mp h)]
    rfl
set_option maxRecDepth 100000 in
theorem qk_1 : ∀ pc, qt_ ((mp_ 1).1 pc) = true := qg_ (N := 116) (fun pc h => cb_ h) (by decide +kernel)
set_option maxRecDepth 100000 in
theorem qk_2 : ∀ pc, qt_ ((mp_ 2).1 pc) = true := qg_ (N := 66) (fun pc h => cb_ h) (by decide +kernel)
set_option maxRecDepth 100000 in
theorem qk_3 : ∀ pc, qt_ ((mp_ 3).1 pc) = true := qg_ (N := 124) (fun pc h => cb_ h) (by decide +kernel)
set_option maxRecDepth 100000 in
theorem qk_4 : ∀ pc, qt_ ((mp_ 4).1 pc) = true := qg_ (N := 115) (fun pc h => cb_ h) (by decide +kernel)
set_option maxRecDepth 100000 in
theorem qk_6 : ∀ pc, qt_ ((mp_ 6).1 pc) = true := qg_ (N := 42) (fun pc h => cb_ h) (by decide +kernel)
set_option maxRecDepth 100000 in
theorem qk_7 : ∀ pc, qt_ ((mp_ 7).1 pc) = true := qg_ (N := 18) (fun pc h => cb_ h) (by decide +kernel)
set_option maxRecDepth 100000 in
theorem qk_8 : ∀ pc, qt_ ((mp_ 8).1 pc) = true := qg_ (N := 18) (fun pc h => cb_ h) (by decide +kernel)
set_option maxRecDepth 100000 in
theorem qk_9 : ∀ pc, qt_ ((mp_ 9).1 pc) = true := qg_ (N := 14) (fun pc h => cb_ h) (by decide +kernel)
set_option maxRecDepth 100000 in
theorem qk_10 : ∀ pc, qt_ ((mp_ 10).1 pc) = true := qg_ (N := 15) (fun pc h => cb_ h) (by decide +kernel)
set_option maxRecDepth 100000 in
theorem qk_11 : ∀ pc, qt_ ((mp_ 11).1 pc) = true := qg_ (N := 24) (fun pc h => cb_ h) (by decide +kernel)
set_option maxRecDepth 100000 in
theorem qk_12 : ∀ pc, qt_ ((mp_ 12).1 pc) = true := qg_ (N := 32) (fun pc h => cb_ h) (by decide +kernel)
set_option maxRecDepth 100000 in
theorem qk_13 : ∀ pc, qt_ ((mp_ 13).1 pc) = true := qg_ (N := 35) (fun pc h => cb_ h) (by decide +kernel)
set_option maxRecDepth 100000 in
theorem qk_14 : ∀ pc, qt_ ((mp_ 14).1 pc) = true := qg_ (N := 88) (fun pc h => cb_ h) (by decide +kernel)
set_option maxRecDepth 100000 in
theorem qk_16 : ∀ pc, qt_ ((mp_ 16).1 pc) = true := qg_ (N := 145) (fun pc h => cb_ h) (by decide +kernel)
set_option maxRecDepth 100000 in
theorem qk_17 : ∀ pc, qt_ ((mp_ 17).1 pc) = true := qg_ (N := 12) (fun pc h => cb_ h) (by decide +kernel)
set_option maxRecDepth 100000 in
theorem qk_18 : ∀ pc, qt_ ((mp_ 18).1 pc) = true := qg_ (N := 123) (fun pc h => cb_ h) (by decide +kernel)
set_option maxRecDepth 100000 in
theorem qk_19 : ∀ pc, qt_ ((mp_ 19).1 pc) = true := qg_ (N := 41) (fun pc h => cb_ h) (by decide +kernel)
set_option maxRecDepth 100000 in
theorem qk_20 : ∀ pc, qt_ ((mp_ 20).1 pc) = true := qg_ (N := 38) (fun pc h => cb_ h) (by decide +kernel)
set_option maxRecDepth 100000 in
theorem qk_21 : ∀ pc, qt_ ((mp_ 21).1 pc) = true := qg_ (N := 82) (fun pc h => cb_ h) (by decide +kernel)
set_option maxRecDepth 100000 in
theorem qk_22 : ∀ pc, qt_ ((mp_ 22).1 pc) = true := qg_ (N := 70) (fun pc h => cb_ h) (by decide +kernel)
set_option maxRecDepth 100000 in
theorem qk_23 : ∀ pc, qt_ ((mp_ 23).1 pc) = true := qg_ (N := 100) (fun pc h => cb_ h) (by decide +kernel)
set_option maxRecDepth 100000 in
theorem qk_24 : ∀ pc, qt_ ((mp_ 24).1 pc) = true := qg_ (N := 28) (fun pc h => cb_ h) (by decide +kernel)
set_option maxRecDepth 100000 in
theorem qk_25 : ∀ pc, qt_ ((mp_ 25).1 pc) = true := qg_ (N := 92) (fun pc h => cb_ h) (by decide +kernel)
set_option maxRecDepth 100000 in
theorem qk_26 : ∀ pc, qt_ ((mp_ 26).1 pc) = true := qg_ (N := 57) (fun pc h => cb_ h) (by decide +kernel)
set_option maxRecDepth 100000 in
theorem qk_28 : ∀ pc, qt_ ((mp_ 28).1 pc) = true := qg_ (N := 7) (fun pc h => cb_ h) (by decide +kernel)
set_option maxRecDepth 100000 in
theorem qk_29 : ∀ pc, qt_ ((mp_ 29).1 pc) = true := qg_ (N := 99) (fun pc h => cb_ h) (by decide +kernel)
set_option maxRecDepth 100000 in
theorem qk_30 : ∀ pc, qt_ ((mp_ 30).1 pc) = true := qg_ (N := 53) (fun pc h => cb_ h) (by decide +kernel)
set_option maxRecDepth 100000 in
theorem qk_31 : ∀ pc, qt_ ((mp_ 31).1 pc) = true := qg_ (N := 53) (fun pc h => cb_ h) (by decide +kernel)
set_option maxRecDepth 100000 in
theorem qk_32 : ∀ pc, qt_ ((mp_ 32).1 pc) = true := qg_ (N := 53) (fun pc h => cb_ h) (by decide +kernel)
set_option maxRecDepth 100000 in
theorem qk_33 : ∀ pc, qt_ ((mp_ 33).1 pc) = true := qg_ (N := 99) (fun pc h => cb_ h) (by decide +kernel)
set_option maxRecDepth 100000 in
theorem qk_34 : ∀ pc, qt_ ((mp_ 34).1 pc) = true := qg_ (N := 155) (fun pc h => cb_ h) (by decide +kernel)
set_option maxRecDepth 100000 in
theorem qk_35 : ∀ pc, qt_ ((mp_ 35).1 pc) = true := qg_ (N := 44) (fun pc h => cb_ h) (by decide +kernel)
set_option maxRecDepth 100000 in
theorem qk_36 : ∀ pc, qt_ ((mp_ 36).1 pc) = true := qg_ (N := 49) (fun pc h => cb_ h) (by decide +kernel)
set_option maxRecDepth 100000 in
theorem qk_37 : ∀ pc, qt_ ((mp_ 37).1 pc) = true := qg_ (N := 54) (fun pc h => cb_ h) (by decide +kernel)
set_option maxRecDepth 100000 in
theorem qk_38 : ∀ pc, qt_ ((mp_ 38).1 pc) = true := qg_ (N := 17) (fun pc h => cb_ h) (by decide +kernel)
set_option maxRecDepth 100000 in
theorem qk_39 : ∀ pc, qt_ ((mp_ 39).1 pc) = true := qg_ (N := 31) (fun pc h => cb_ h) (by decide +kernel)
set_option maxRecDepth 100000 in
theorem qk_40 : ∀ pc, qt_ ((mp_ 40).1 pc) = true := qg_ (N := 29) (fun pc h => cb_ h) (by decide +kernel)
set_option maxRecDepth 100000 in
theorem qk_41 : ∀ pc, qt_ ((mp_ 41).1 pc) = true := qg_ (N := 28) (fun pc h => cb_ h) (by decide +kernel)
set_option maxRecDepth 100000 in
theorem qk_42 : ∀ pc, qt_ ((mp_ 42).1 pc) = true := qg_ (N := 80) (fun pc h => cb_ h) (by decide +kernel)
set_option maxRecDepth 100000 in
theorem qk_43 : ∀ pc, qt_ ((mp_ 43).1 pc) = true := qg_ (N := 53) (fun pc h => cb_ h) (by decide +kernel)
set_option maxRecDepth 100000 in
theorem qk_44 : ∀ pc, qt_ ((mp_ 44).1 pc) = true := qg_ (N := 80) (fun pc h => cb_ h) (by decide +kernel)
set_option maxRecDepth 100000 in
theorem qk_45 : ∀ pc, qt_ ((mp_ 45).1 pc) = true := qg_ (N := 21) (fun pc h => cb_ h) (by decide +kernel)
set_option maxRecDepth 100000 in
theorem qk_47 : ∀ pc, qt_ ((mp_ 47).1 pc) = true := qg_ (N := 14) (fun pc h => cb_ h) (by decide +kernel)
set_option maxRecDepth 100000 in
theorem qk_48 : ∀ pc, qt_ ((mp_ 48).1 pc) = true := qg_ (N := 156) (fun pc h => cb_ h) (by decide +kernel)
set_option maxRecDepth 100000 in
theorem qk_50 : ∀ pc, qt_ ((mp_ 50).1 pc) = true := qg_ (N := 50) (fun pc h => cb_ h) (by decide +kernel)
set_option maxRecDepth 100000 in
theorem qk_51 : ∀ pc, qt_ ((mp_ 51).1 pc) = true := qg_ (N := 22) (fun pc h => cb_ h) (by decide +kernel)
set_option maxRecDepth 100000 in
theorem qk_52 : ∀ pc, qt_ ((mp_ 52).1 pc) = true := qg_ (N := 10) (fun pc h => cb_ h) (by decide +kernel)
set_option maxRecDepth 100000 in
theorem qk_53 : ∀ pc, qt_ ((mp_ 53).1 pc) = true := qg_ (N := 32) (fun pc h => cb_ h) (by decide +kernel)
set_option maxRecDepth 100000 in
theorem qk_54 : ∀ pc, qt_ ((mp_ 54).1 pc) = true := qg_ (N := 34) (fun pc h => cb_ h) (by decide +kernel)
set_option maxRecDepth 100000 in
theorem qk_56 : ∀ pc, qt_ ((mp_ 56).1 pc) = true := qg_ (N := 29) (fun pc h => cb_ h) (by decide +kernel)
set_option maxRecDepth 100000 in
theorem qk_57 : ∀ pc, qt_ ((mp_ 57).1 pc) = true := qg_ (N := 69) (fun pc h => cb_ h) (by decide +kernel)
set_option maxRecDepth 100000 in
theorem qk_58 : ∀ pc, qt_ ((mp_ 58).1 pc) = true := qg_ (N := 133) (fun pc h => cb_ h) (by decide +kernel)
set_option maxRecDepth 100000 in
theorem qk_59 : ∀ pc, qt_ ((mp_ 59).1 pc) = true := qg_ (N := 124) (fun pc h => cb_ h) (by decide +kernel)
set_option maxRecDepth 100000 in
theorem qk_60 : ∀ pc, qt_ ((mp_ 60).1 pc) = true := qg_ (N := 12) (fun pc h => cb_ h) (by decide +kernel)
set_option maxRecDepth 100000 in
theorem qk_61 : ∀ pc, qt_ ((mp_ 61).1 pc) = true := qg_ (N := 52) (fun pc h => cb_ h) (by decide +kernel)
set_option maxRecDepth 100000 in
theorem qk_62 : ∀ pc, qt_ ((mp_ 62).1 pc) = true := qg_ (N := 43) (fun pc h => cb_ h) (by decide +kernel)
set_option maxRecDepth 100000 in
theorem qk_64 : ∀ pc, qt_ ((mp_ 64).1 pc) = true := qg_ (N := 16) (fun pc h => cb_ h) (by decide +kernel)
set_option maxRecDepth 100000 in
theorem qk_65 : ∀ pc, qt_ ((mp_ 65).1 pc) = true := qg_ (N := 19) (fun pc h => cb_ h) (by decide +kernel)
set_option maxRecDepth 100000 in
theorem qk_66 : ∀ pc, qt_ ((mp_ 66).1 pc) = true := qg_ (N := 71) (fun pc h => cb_ h) (by decide +kernel)
set_option maxRecDepth 100000 in
theorem qk_67 : ∀ pc, qt_ ((mp_ 67).1 pc) = true := qg_ (N := 12) (fun pc h => cb_ h) (by decide +kernel)
set_option maxRecDepth 100000 in
theorem qk_68 : ∀ pc, qt_ ((mp_ 68).1 pc) = true := qg_ (N := 46) (fun pc h => cb_ h) (by decide +kernel)
set_option maxRecDepth 100000 in
theorem qk_69 : ∀ pc, qt_ ((mp_ 69).1 pc) = true := qg_ (N := 76) (fun pc h => cb_ h) (by decide +kernel)
set_option maxRecDepth 100000 in
theorem qk_70 : ∀ pc, qt_ ((mp_ 70).1 pc) = true := qg_ (N := 56) (fun pc h => cb_ h) (by decide +kernel)
set_option maxRecDepth 100000 in
theorem qk_71 : ∀ pc, qt_ ((mp_ 71).1 pc) = true := qg_ (N := 85) (fun pc h => cb_ h) (by decide +kernel)
set_option maxRecDepth 100000 in
theorem qk_72 : ∀ pc, qt_ ((mp_ 72).1 pc) = true := qg_ (N := 204) (fun pc h => cb_ h) (by decide +kernel)
set_option maxRecDepth 100000 in
theorem qk_73 : ∀ pc, qt_ ((mp_ 73).1 pc) = true := qg_ (N := 42) (fun pc h => cb_ h) (by decide +kernel)
set_option maxRecDepth 100000 in
theorem qk_74 : ∀ pc, qt_ ((mp_ 74).1 pc) = true := qg_ (N := 82) (fun pc h => cb_ h) (by decide +kernel)
set_option maxRecDepth 100000 in
theorem qk_75 : ∀ pc, qt_ ((mp_ 75).1 pc) = true := qg_ (N := 81) (fun pc h => cb_ h) (by decide +kernel)
set_option maxRecDepth 100000 in
theorem qk_76 : ∀ pc, qt_ ((mp_ 76).1 pc) = true := qg_ (N := 244) (fun pc h => cb_ h) (by decide +kernel)
set_option maxRecDepth 100000 in
theorem qk_77 : ∀ pc, qt_ ((mp_ 77).1 pc) = true := qg_ (N := 75) (fun pc h => cb_ h) (by decide +kernel)
set_option maxRecDepth 100000 in
theorem qk_78 : ∀ pc, qt_ ((mp_ 78).1 pc) = true := qg_ (N := 187) (fun pc h => cb_ h) (by decide +kernel)
set_option maxRecDepth 100000 in
theorem qk_79 : ∀ pc, qt_ ((mp_ 79).1 pc) = true := qg_ (N := 75) (fun pc h => cb_ h) (by decide +kernel)
set_option maxRecDepth 100000 in
theorem qk_80 : ∀ pc, qt_ ((mp_ 80).1 pc) = true := qg_ (N := 75) (fun pc h => cb_ h) (by decide +kernel)
set_option maxRecDepth 100000 in
theorem qk_82 : ∀ pc, qt_ ((mp_ 82).1 pc) = true := qg_ (N := 41) (fun pc h => cb_ h) (by decide +kernel)
set_option maxRecDepth 100000 in
theorem qk_83 : ∀ pc, qt_ ((mp_ 83).1 pc) = true := qg_ (N := 64) (fun pc h => cb_ h) (by decide +kernel)
set_option maxRecDepth 100000 in
theorem qk_84 : ∀ pc, qt_ ((mp_ 84).1 pc) = true := qg_ (N := 43) (fun pc h => cb_ h) (by decide +kernel)
set_option maxRecDepth 100000 in
theorem qk_85 : ∀ pc, qt_ ((mp_ 85).1 pc) = true := qg_ (N := 34) (fun pc h => cb_ h) (by decide +kernel)
set_option maxRecDepth 100000 in
theorem qk_86 : ∀ pc, qt_ ((mp_ 86).1 pc) = true := qg_ (N := 83) (fun pc h => cb_ h) (by decide +kernel)
set_option maxRecDepth 100000 in
theorem qk_87 : ∀ pc, qt_ ((mp_ 87).1 pc) = true := qg_ (N := 62) (fun pc h => cb_ h) (by decide +kernel)
set_option maxRecDepth 100000 in
theorem qk_88 : ∀ pc, qt_ ((mp_ 88).1 pc) = true := qg_ (N := 49) (fun pc h => cb_ h) (by decide +kernel)
set_option maxRecDepth 100000 in
theorem qk_89 : ∀ pc, qt_ ((mp_ 89).1 pc) = true := qg_ (N := 34) (fun pc h => cb_ h) (by decide +kernel)
set_option maxRecDepth 100000 in
theorem qk_90 : ∀ pc, qt_ ((mp_ 90).1 pc) = true := qg_ (N := 106) (fun pc h => cb_ h) (by decide +kernel)
set_option maxRecDepth 100000 in
theorem qk_91 : ∀ pc, qt_ ((mp_ 91).1 pc) = true := qg_ (N := 69) (fun pc h => cb_ h) (by decide +kernel)
set_option maxRecDepth 100000 in
theorem qk_92 : ∀ pc, qt_ ((mp_ 92).1 pc) = true := qg_ (N := 28) (fun pc h => cb_ h) (by decide +kernel)
set_option maxRecDepth 100000 in
theorem qk_93 : ∀ pc, qt_ ((mp_ 93).1 pc) = true := qg_ (N := 56) (fun pc h => cb_ h) (by decide +kernel)
set_option maxRecDepth 100000 in
theorem qk_94 : ∀ pc, qt_ ((mp_ 94).1 pc) = true := qg_ (N := 53) (fun pc h => cb_ h) (by decide +kernel)
set_option maxRecDepth 100000 in
theorem qk_95 : ∀ pc, qt_ ((mp_ 95).1 pc) = true := qg_ (N := 63) (fun pc h => cb_ h) (by decide +kernel)
set_option maxRecDepth 100000 in
theorem qk_96 : ∀ pc, qt_ ((mp_ 96).1 pc) = true := qg_ (N := 61) (fun pc h => cb_ h) (by decide +kernel)
set_option maxRecDepth 100000 in
theorem qk_97 : ∀ pc, qt_ ((mp_ 97).1 pc) = true := qg_ (N := 36) (fun pc h => cb_ h) (by decide +kernel)
set_option maxRecDepth 100000 in
theorem qk_98 : ∀ pc, qt_ ((mp_ 98).1 pc) = true := qg_ (N := 35) (fun pc h => cb_ h) (by decide +kernel)
set_option maxRecDepth 100000 in
theorem qk_99 : ∀ pc, qt_ ((mp_ 99).1 pc) = true := qg_ (N := 87) (fun pc h => cb_ h) (by decide +kernel)
set_option maxRecDepth 100000 in
theorem qk_100 : ∀ pc, qt_ ((mp_ 100).1 pc) = true := qg_ (N := 29) (fun pc h => cb_ h) (by decide +kernel)
set_option maxRecDepth 100000 in
theorem qk_101 : ∀ pc, qt_ ((mp_ 101).1 pc) = true := qg_ (N := 8) (fun pc h => cb_ h) (by decide +kernel)
set_option maxRecDepth 100000 in
theorem qk_102 : ∀ pc, qt_ ((mp_ 102).1 pc) = true := qg_ (N := 38) (fun pc h => cb_ h) (by decide +kernel)
set_option maxRecDepth 100000 in
theorem qk_103 : ∀ pc, qt_ ((mp_ 103).1 pc) = true := qg_ (N := 42) (fun pc h => cb_ h) (by decide +kernel)
set_option maxRecDepth 100000 in
theorem qk_104 : ∀ pc, qt_ ((mp_ 104).1 pc) = true := qg_ (N := 113) (fun pc h => cb_ h) (by decide +kernel)
set_option maxRecDepth 100000 in
theorem qk_105 : ∀ pc, qt_ ((mp_ 105).1 pc) = true := qg_ (N := 10) (fun pc h => cb_ h) (by decide +kernel)
set_option maxRecDepth 100000 in
theorem qk_106 : ∀ pc, qt_ ((mp_ 106).1 pc) = true := qg_ (N := 16) (fun pc h => cb_ h) (by decide +kernel)
set_option maxRecDepth 100000 in
theorem qk_107 : ∀ pc, qt_ ((mp_ 107).1 pc) = true := qg_ (N := 16) (fun pc h => cb_ h) (by decide +kernel)
set_option maxRecDepth 100000 in
theorem qk_108 : ∀ pc, qt_ ((mp_ 108).1 pc) = true := qg_ (N := 26) (fun pc h => cb_ h) (by decide +kernel)
set_option maxRecDepth 100000 in
theorem qk_109 : ∀ pc, qt_ ((mp_ 109).1 pc) = true := qg_ (N := 45) (fun pc h => cb_ h) (by decide +kernel)
set_option maxRecDepth 100000 in
theorem qk_111 : ∀ pc, qt_ ((mp_ 111).1 pc) = true := qg_ (N := 19) (fun pc h => cb_ h) (by decide +kernel)
set_option maxRecDepth 100000 in
theorem qk_112 : ∀ pc, qt_ ((mp_ 112).1 pc) = true := qg_ (N := 16) (fun pc h => cb_ h) (by decide +kernel)
set_option maxRecDepth 100000 in
theorem qk_113 : ∀ pc, qt_ ((mp_ 113).1 pc) = true := qg_ (N := 12) (fun pc h => cb_ h) (by decide +kernel)
set_option maxRecDepth 100000 in
theorem qk_114 : ∀ pc, qt_ ((mp_ 114).1 pc) = true := qg_ (N := 10) (fun pc h => cb_ h) (by decide +kernel)
set_option maxRecDepth 100000 in
theorem qk_115 : ∀ pc, qt_ ((mp_ 115).1 pc) = true := qg_ (N := 124) (fun pc h => cb_ h) (by decide +kernel)
set_option maxRecDepth 100000 in
theorem qk_116 : ∀ pc, qt_ ((mp_ 116).1 pc) = true := qg_ (N := 31) (fun pc h => cb_ h) (by decide +kernel)
set_option maxRecDepth 100000 in
theorem qk_117 : ∀ pc, qt_ ((mp_ 117).1 pc) = true := qg_ (N := 74) (fun pc h => cb_ h) (by decide +kernel)
set_option maxRecDepth 100000 in
theorem qk_118 : ∀ pc, qt_ ((mp_ 118).1 pc) = true := qg_ (N := 48) (fun pc h => cb_ h) (by decide +kernel)
set_option maxRecDepth 100000 in
theorem qk_119 : ∀ pc, qt_ ((mp_ 119).1 pc) = true := qg_ (N := 33) (fun pc h => cb_ h) (by decide +kernel)
set_option maxRecDepth 100000 in
theorem qk_120 : ∀ pc, qt_ ((mp_ 120).1 pc) = true := qg_ (N := 110) (fun pc h => cb_ h) (by decide +kernel)
set_option maxRecDepth 100000 in
theorem qk_121 : ∀ pc, qt_ ((mp_ 121).1 pc) = true := qg_ (N := 67) (fun pc h => cb_ h) (by decide +kernel)
set_option maxRecDepth 100000 in
theorem qk_122 : ∀ pc, qt_ ((mp_ 122).1 pc) = true := qg_ (N := 188) (fun pc h => cb_ h) (by decide +kernel)
set_option maxRecDepth 100000 in
theorem qk_123 : ∀ pc, qt_ ((mp_ 123).1 pc) = true := qg_ (N := 114) (fun pc h => cb_ h) (by decide +kernel)
set_option maxRecDepth 100000 in
theorem qk_124 : ∀ pc, qt_ ((mp_ 124).1 pc) = true := qg_ (N := 104) (fun pc h => cb_ h) (by decide +kernel)
set_option maxRecDepth 100000 in
theorem qk_125 : ∀ pc, qt_ ((mp_ 125).1 pc) = true := qg_ (N := 28) (fun pc h => cb_ h) (by decide +kernel)
set_option maxRecDepth 100000 in
theorem qk_126 : ∀ pc, qt_ ((mp_ 126).1 pc) = true := qg_ (N := 184) (fun pc h => cb_ h) (by decide +kernel)
set_option maxRecDepth 100000 in
theorem qk_127 : ∀ pc, qt_ ((mp_ 127).1 pc) = true := qg_ (N := 240) (fun pc h => cb_ h) (by decide +kernel)
set_option maxRecDepth 100000 in
theorem qk_128 : ∀ pc, qt_ ((mp_ 128).1 pc) = true := qg_ (N := 33) (fun pc h => cb_ h) (by decide +kernel)
set_option maxRecDepth 100000 in
theorem qk_129 : ∀ pc, qt_ ((mp_ 129).1 pc) = true := qg_ (N := 86) (fun pc h => cb_ h) (by decide +kernel)
set_option maxRecDepth 100000 in
theorem qk_130 : ∀ pc, qt_ ((mp_ 130).1 pc) = true := qg_ (N := 262) (fun pc h => cb_ h) (by decide +kernel)
set_option maxRecDepth 100000 in
theorem qk_131 : ∀ pc, qt_ ((mp_ 131).1 pc) = true := qg_ (N := 31) (fun pc h => cb_ h) (by decide +kernel)
set_option maxRecDepth 100000 in
theorem qk_132 : ∀ pc, qt_ ((mp_ 132).1 pc) = true := qg_ (N := 57) (fun pc h => cb_ h) (by decide +kernel)
set_option maxRecDepth 100000 in
theorem qk_133 : ∀ pc, qt_ ((mp_ 133).1 pc) = true := qg_ (N := 278) (fun pc h => cb_ h) (by decide +kernel)
set_option maxRecDepth 100000 in
theorem qk_134 : ∀ pc, qt_ ((mp_ 134).1 pc) = true := qg_ (N := 252) (fun pc h => cb_ h) (by decide +kernel)
set_option maxRecDepth 100000 in
theorem qk_135 : ∀ pc, qt_ ((mp_ 135).1 pc) = true := qg_ (N := 93) (fun pc h => cb_ h) (by decide +kernel)
set_option maxRecDepth 100000 in
theorem qk_136 : ∀ pc, qt_ ((mp_ 136).1 pc) = true := qg_ (N := 238) (fun pc h => cb_ h) (by decide +kernel)
set_option maxRecDepth 100000 in
theorem qk_137 : ∀ pc, qt_ ((mp_ 137).1 pc) = true := qg_ (N := 100) (fun pc h => cb_ h) (by decide +kernel)
set_option maxRecDepth 100000 in
theorem qk_138 : ∀ pc, qt_ ((mp_ 138).1 pc) = true := qg_ (N := 73) (fun pc h => cb_ h) (by decide +kernel)
set_option maxRecDepth 100000 in
theorem qk_139 : ∀ pc, qt_ ((mp_ 139).1 pc) = true := qg_ (N := 246) (fun pc h => cb_ h) (by decide +kernel)
set_option maxRecDepth 100000 in
theorem qk_140 : ∀ pc, qt_ ((mp_ 140).1 pc) = true := qg_ (N := 58) (fun pc h => cb_ h) (by decide +kernel)
set_option maxRecDepth 100000 in
theorem qk_141 : ∀ pc, qt_ ((mp_ 141).1 pc) = true := qg_ (N := 59) (fun pc h => cb_ h) (by decide +kernel)
set_option maxRecDepth 100000 in
theorem qk_142 : ∀ pc, qt_ ((mp_ 142).1 pc) = true := qg_ (N := 200) (fun pc h => cb_ h) (by decide +kernel)
set_option maxRecDepth 100000 in
theorem qk_143 : ∀ pc, qt_ ((mp_ 143).1 pc) = true := qg_ (N := 183) (fun pc h => cb_ h) (by decide +kernel)
set_option maxRecDepth 100000 in
theorem qk_144 : ∀ pc, qt_ ((mp_ 144).1 pc) = true := qg_ (N := 129) (fun pc h => cb_ h) (by decide +kernel)
set_option maxRecDepth 100000 in
theorem qk_145 : ∀ pc, qt_ ((mp_ 145).1 pc) = true := qg_ (N := 95) (fun pc h => cb_ h) (by decide +kernel)
set_option maxRecDepth 100000 in
theorem qk_146 : ∀ pc, qt_ ((mp_ 146).1 pc) = true := qg_ (N := 123) (fun pc h => cb_ h) (by decide +kernel)
set_option maxRecDepth 100000 in
theorem qk_147 : ∀ pc, qt_ ((mp_ 147).1 pc) = true := qg_ (N := 29) (fun pc h => cb_ h) (by decide +kernel)
set_option maxRecDepth 100000 in
theorem qk_148 : ∀ pc, qt_ ((mp_ 148).1 pc) = true := qg_ (N := 23) (fun pc h => cb_ h) (by decide +kernel)
set_option maxRecDepth 100000 in
theorem qk_149 : ∀ pc, qt_ ((mp_ 149).1 pc) = true := qg_ (N := 24) (fun pc h => cb_ h) (by decide +kernel)
set_option maxRecDepth 100000 in
theorem qk_150 : ∀ pc, qt_ ((mp_ 150).1 pc) = true := qg_ (N := 36) (fun pc h => cb_ h) (by decide +kernel)
set_option maxRecDepth 100000 in
theorem qk_151 : ∀ pc, qt_ ((mp_ 151).1 pc) = true := qg_ (N := 203) (fun pc h => cb_ h) (by decide +kernel)
set_option maxRecDepth 100000 in
theorem qk_152 : ∀ pc, qt_ ((mp_ 152).1 pc) = true := qg_ (N := 25) (fun pc h => cb_ h) (by decide +kernel)
set_option maxRecDepth 100000 in
theorem qk_153 : ∀ pc, qt_ ((mp_ 153).1 pc) = true := qg_ (N := 7) (fun pc h => cb_ h) (by decide +kernel)
set_option maxRecDepth 100000 in
theorem qk_154 : ∀ pc, qt_ ((mp_ 154).1 pc) = true := qg_ (N := 112) (fun pc h => cb_ h) (by decide +kernel)
set_option maxRecDepth 100000 in
theorem qk_155 : ∀ pc, qt_ ((mp_ 155).1 pc) = true := qg_ (N := 29) (fun pc h => cb_ h) (by decide +kernel)
set_option maxRecDepth 100000 in
theorem qk_156 : ∀ pc, qt_ ((mp_ 156).1 pc) = true := qg_ (N := 151) (fun pc h => cb_ h) (by decide +kernel)
set_option maxRecDepth 100000 in
theorem qk_157 : ∀ pc, qt_ ((mp_ 157).1 pc) = true := qg_ (N := 64) (fun pc h => cb_ h) (by decide +kernel)
set_option maxRecDepth 100000 in
theorem qk_158 : ∀ pc, qt_ ((mp_ 158).1 pc) = true := qg_ (N := 102) (fun pc h => cb_ h) (by decide +kernel)
set_option maxRecDepth 100000 in
theorem qk_159 : ∀ pc, qt_ ((mp_ 159).1 pc) = true := qg_ (N := 81) (fun pc h => cb_ h) (by decide +kernel)
set_option maxRecDepth 100000 in
theorem qk_160 : ∀ pc, qt_ ((mp_ 160).1 pc) = true := qg_ (N := 61) (fun pc h => cb_ h) (by decide +kernel)
set_option maxRecDepth 100000 in
theorem qk_161 : ∀ pc, qt_ ((mp_ 161).1 pc) = true := qg_ (N := 38) (fun pc h => cb_ h) (by decide +kernel)
set_option maxRecDepth 100000 in
theorem qk_162 : ∀ pc, qt_ ((mp_ 162).1 pc) = true := qg_ (N := 227) (fun pc h => cb_ h) (by decide +kernel)
set_option maxRecDepth 100000 in
theorem qk_163 : ∀ pc, qt_ ((mp_ 163).1 pc) = true := qg_ (N := 161) (fun pc h => cb_ h) (by decide +kernel)
set_option maxRecDepth 100000 in
theorem qk_164 : ∀ pc, qt_ ((mp_ 164).1 pc) = true := qg_ (N := 72) (fun pc h => cb_ h) (by decide +kernel)
set_option maxRecDepth 100000 in
theorem qk_165 : ∀ pc, qt_ ((mp_ 165).1 pc) = true := qg_ (N := 47) (fun pc h => cb_ h) (by decide +kernel)
set_option maxRecDepth 100000 in
theorem qk_166 : ∀ pc, qt_ ((mp_ 166).1 pc) = true := qg_ (N := 220) (fun pc h => cb_ h) (by decide +kernel)
set_option maxRecDepth 100000 in
theorem qk_167 : ∀ pc, qt_ ((mp_ 167).1 pc) = true := qg_ (N := 84) (fun pc h => cb_ h) (by decide +kernel)
set_option maxRecDepth 100000 in
theorem qk_168 : ∀ pc, qt_ ((mp_ 168).1 pc) = true := qg_ (N := 68) (fun pc h => cb_ h) (by decide +kernel)
set_option maxRecDepth 100000 in
theorem qk_169 : ∀ pc, qt_ ((mp_ 169).1 pc) = true := qg_ (N := 35) (fun pc h => cb_ h) (by decide +kernel)
set_option maxRecDepth 100000 in
theorem qk_170 : ∀ pc, qt_ ((mp_ 170).1 pc) = true := qg_ (N := 119) (fun pc h => cb_ h) (by decide +kernel)
set_option maxRecDepth 100000 in
theorem qk_171 : ∀ pc, qt_ ((mp_ 171).1 pc) = true := qg_ (N := 50) (fun pc h => cb_ h) (by decide +kernel)
set_option maxRecDepth 100000 in
theorem qk_172 : ∀ pc, qt_ ((mp_ 172).1 pc) = true := qg_ (N := 226) (fun pc h => cb_ h) (by decide +kernel)
set_option maxRecDepth 100000 in
theorem qk_173 : ∀ pc, qt_ ((mp_ 173).1 pc) = true := qg_ (N := 190) (fun pc h => cb_ h) (by decide +kernel)
set_option maxRecDepth 100000 in
theorem qk_174 : ∀ pc, qt_ ((mp_ 174).1 pc) = true := qg_ (N := 36) (fun pc h => cb_ h) (by decide +kernel)
set_option maxRecDepth 100000 in
theorem qk_175 : ∀ pc, qt_ ((mp_ 175).1 pc) = true := qg_ (N := 10) (fun pc h => cb_ h) (by decide +kernel)
set_option maxRecDepth 100000 in
theorem qk_176 : ∀ pc, qt_ ((mp_ 176).1 pc) = true := qg_ (N := 59) (fun pc h => cb_ h) (by decide +kernel)
set_option maxRecDepth 100000 in
theorem qk_177 : ∀ pc, qt_ ((mp_ 177).1 pc) = true := qg_ (N := 304) (fun pc h => cb_ h) (by decide +kernel)
set_option maxRecDepth 100000 in
theorem qk_178 : ∀ pc, qt_ ((mp_ 178).1 pc) = true := qg_ (N := 54) (fun pc h => cb_ h) (by decide +kernel)
set_option maxRecDepth 100000 in
theorem qk_179 : ∀ pc, qt_ ((mp_ 179).1 pc) = true := qg_ (N := 60) (fun pc h => cb_ h) (by decide +kernel)
set_option maxRecDepth 100000 in
theorem qk_180 : ∀ pc, qt_ ((mp_ 180).1 pc) = true := qg_ (N := 80) (fun pc h => cb_ h) (by decide +kernel)
set_option maxRecDepth 100000 in
theorem qk_181 : ∀ pc, qt_ ((mp_ 181).1 pc) = true := qg_ (N := 111) (fun pc h => cb_ h) (by decide +kernel)
set_option maxRecDepth 100000 in
theorem qk_182 : ∀ pc, qt_ ((mp_ 182).1 pc) = true := qg_ (N := 62) (fun pc h => cb_ h) (by decide +kernel)
set_option maxRecDepth 100000 in
theorem qk_183 : ∀ pc, qt_ ((mp_ 183).1 pc) = true := qg_ (N := 186) (fun pc h => cb_ h) (by decide +kernel)
set_option maxRecDepth 100000 in
theorem qk_184 : ∀ pc, qt_ ((mp_ 184).1 pc) = true := qg_ (N := 61) (fun pc h => cb_ h) (by decide +kernel)
set_option maxRecDepth 100000 in
theorem qk_185 : ∀ pc, qt_ ((mp_ 185).1 pc) = true := qg_ (N := 23) (fun pc h => cb_ h) (by decide +kernel)
set_option maxRecDepth 100000 in
theorem qk_186 : ∀ pc, qt_ ((mp_ 186).1 pc) = true := qg_ (N := 21) (fun pc h => cb_ h) (by decide +kernel)
theorem ql_0 : ∀ x ∈ ([0, 1, 2, 3, 4, 5, 6, 7, 8, 9, 10, 11, 12, 13, 14, 15, 16, 17, 18, 19, 20] : List Nat), mk_k x ≠ 2 → ∀ pc, qt_ ((mp_ x).1 pc) = true := List.forall_mem_cons.mpr ⟨fun h => absurd rfl h, List.forall_mem_cons.mpr ⟨fun _ => qk_1, List.forall_mem_cons.mpr ⟨fun _ => qk_2, List.forall_mem_cons.mpr ⟨fun _ => qk_3, List.forall_mem_cons.mpr ⟨fun _ => qk_4, List.forall_mem_cons.mpr ⟨fun h => absurd rfl h, List.forall_mem_cons.mpr ⟨fun _ => qk_6, List.forall_mem_cons.mpr ⟨fun _ => qk_7, List.forall_mem_cons.mpr ⟨fun _ => qk_8, List.forall_mem_cons.mpr ⟨fun _ => qk_9, List.forall_mem_cons.mpr ⟨fun _ => qk_10, List.forall_mem_cons.mpr ⟨fun _ => qk_11, List.forall_mem_cons.mpr ⟨fun _ => qk_12, List.forall_mem_cons.mpr ⟨fun _ => qk_13, List.forall_mem_cons.mpr ⟨fun _ => qk_14, List.forall_mem_cons.mpr ⟨fun h => absurd rfl h, List.forall_mem_cons.mpr ⟨fun _ => qk_16, List.forall_mem_cons.mpr ⟨fun _ => qk_17, List.forall_mem_cons.mpr ⟨fun _ => qk_18, List.forall_mem_cons.mpr ⟨fun _ => qk_19, List.forall_mem_cons.mpr ⟨fun _ => qk_20, fun _ h => absurd h List.not_mem_nil⟩⟩⟩⟩⟩⟩⟩⟩⟩⟩⟩⟩⟩⟩⟩⟩⟩⟩⟩⟩⟩
theorem ql_21 : ∀ x ∈ ([21, 22, 23, 24, 25, 26, 27, 28, 29, 30, 31, 32, 33, 34, 35, 36, 37, 38, 39, 40, 41] : List Nat), mk_k x ≠ 2 → ∀ pc, qt_ ((mp_ x).1 pc) = true := List.forall_mem_cons.mpr ⟨fun _ => qk_21, List.forall_mem_cons.mpr ⟨fun _ => qk_22, List.forall_mem_cons.mpr ⟨fun _ => qk_23, List.forall_mem_cons.mpr ⟨fun _ => qk_24, List.forall_mem_cons.mpr ⟨fun _ => qk_25, List.forall_mem_cons.mpr ⟨fun _ => qk_26, List.forall_mem_cons.mpr ⟨fun h => absurd rfl h, List.forall_mem_cons.mpr ⟨fun _ => qk_28, List.forall_mem_cons.mpr ⟨fun _ => qk_29, List.forall_mem_cons.mpr ⟨fun _ => qk_30, List.forall_mem_cons.mpr ⟨fun _ => qk_31, List.forall_mem_cons.mpr ⟨fun _ => qk_32, List.forall_mem_cons.mpr ⟨fun _ => qk_33, List.forall_mem_cons.mpr ⟨fun _ => qk_34, List.forall_mem_cons.mpr ⟨fun _ => qk_35, List.forall_mem_cons.mpr ⟨fun _ => qk_36, List.forall_mem_cons.mpr ⟨fun _ => qk_37, List.forall_mem_cons.mpr ⟨fun _ => qk_38, List.forall_mem_cons.mpr ⟨fun _ => qk_39, List.forall_mem_cons.mpr ⟨fun _ => qk_40, List.forall_mem_cons.mpr ⟨fun _ => qk_41, fun _ h => absurd h List.not_mem_nil⟩⟩⟩⟩⟩⟩⟩⟩⟩⟩⟩⟩⟩⟩⟩⟩⟩⟩⟩⟩⟩
theorem ql_42 : ∀ x ∈ ([42, 43, 44, 45, 46, 47, 48, 49, 50, 51, 52, 53, 54, 55, 56, 57, 58, 59, 60, 61, 62] : List Nat), mk_k x ≠ 2 → ∀ pc, qt_ ((mp_ x).1 pc) = true := List.forall_mem_cons.mpr ⟨fun _ => qk_42, List.forall_mem_cons.mpr ⟨fun _ => qk_43, List.forall_mem_cons.mpr ⟨fun _ => qk_44, List.forall_mem_cons.mpr ⟨fun _ => qk_45, List.forall_mem_cons.mpr ⟨fun h => absurd rfl h, List.forall_mem_cons.mpr ⟨fun _ => qk_47, List.forall_mem_cons.mpr ⟨fun _ => qk_48, List.forall_mem_cons.mpr ⟨fun h => absurd rfl h, List.forall_mem_cons.mpr ⟨fun _ => qk_50, List.forall_mem_cons.mpr ⟨fun _ => qk_51, List.forall_mem_cons.mpr ⟨fun _ => qk_52, List.forall_mem_cons.mpr ⟨fun _ => qk_53, List.forall_mem_cons.mpr ⟨fun _ => qk_54, List.forall_mem_cons.mpr ⟨fun h => absurd rfl h, List.forall_mem_cons.mpr ⟨fun _ => qk_56, List.forall_mem_cons.mpr ⟨fun _ => qk_57, List.forall_mem_cons.mpr ⟨fun _ => qk_58, List.forall_mem_cons.mpr ⟨fun _ => qk_59, List.forall_mem_cons.mpr ⟨fun _ => qk_60, List.forall_mem_cons.mpr ⟨fun _ => qk_61, List.forall_mem_cons.mpr ⟨fun _ => qk_62, fun _ h => absurd h List.not_mem_nil⟩⟩⟩⟩⟩⟩⟩⟩⟩⟩⟩⟩⟩⟩⟩⟩⟩⟩⟩⟩⟩
theorem ql_63 : ∀ x ∈ ([63, 64, 65, 66, 67, 68, 69, 70, 71, 72, 73, 74, 75, 76, 77, 78, 79, 80, 81, 82, 83] : List Nat), mk_k x ≠ 2 → ∀ pc, qt_ ((mp_ x).1 pc) = true := List.forall_mem_cons.mpr ⟨fun h => absurd rfl h, List.forall_mem_cons.mpr ⟨fun _ => qk_64, List.forall_mem_cons.mpr ⟨fun _ => qk_65, List.forall_mem_cons.mpr ⟨fun _ => qk_66, List.forall_mem_cons.mpr ⟨fun _ => qk_67, List.forall_mem_cons.mpr ⟨fun _ => qk_68, List.forall_mem_cons.mpr ⟨fun _ => qk_69, List.forall_mem_cons.mpr ⟨fun _ => qk_70, List.forall_mem_cons.mpr ⟨fun _ => qk_71, List.forall_mem_cons.mpr ⟨fun _ => qk_72, List.forall_mem_cons.mpr ⟨fun _ => qk_73, List.forall_mem_cons.mpr ⟨fun _ => qk_74, List.forall_mem_cons.mpr ⟨fun _ => qk_75, List.forall_mem_cons.mpr ⟨fun _ => qk_76, List.forall_mem_cons.mpr ⟨fun _ => qk_77, List.forall_mem_cons.mpr ⟨fun _ => qk_78, List.forall_mem_cons.mpr ⟨fun _ => qk_79, List.forall_mem_cons.mpr ⟨fun _ => qk_80, List.forall_mem_cons.mpr ⟨fun h => absurd rfl h, List.forall_mem_cons.mpr ⟨fun _ => qk_82, List.forall_mem_cons.mpr ⟨fun _ => qk_83, fun _ h => absurd h List.not_mem_nil⟩⟩⟩⟩⟩⟩⟩⟩⟩⟩⟩⟩⟩⟩⟩⟩⟩⟩⟩⟩⟩
theorem ql_84 : ∀ x ∈ ([84, 85, 86, 87, 88, 89, 90, 91, 92, 93, 94, 95, 96, 97, 98, 99, 100, 101, 102, 103, 104] : List Nat), mk_k x ≠ 2 → ∀ pc, qt_ ((mp_ x).1 pc) = true := List.forall_mem_cons.mpr ⟨fun _ => qk_84, List.forall_mem_cons.mpr ⟨fun _ => qk_85, List.forall_mem_cons.mpr ⟨fun _ => qk_86, List.forall_mem_cons.mpr ⟨fun _ => qk_87, List.forall_mem_cons.mpr ⟨fun _ => qk_88, List.forall_mem_cons.mpr ⟨fun _ => qk_89, List.forall_mem_cons.mpr ⟨fun _ => qk_90, List.forall_mem_cons.mpr ⟨fun _ => qk_91, List.forall_mem_cons.mpr ⟨fun _ => qk_92, List.forall_mem_cons.mpr ⟨fun _ => qk_93, List.forall_mem_cons.mpr ⟨fun _ => qk_94, List.forall_mem_cons.mpr ⟨fun _ => qk_95, List.forall_mem_cons.mpr ⟨fun _ => qk_96, List.forall_mem_cons.mpr ⟨fun _ => qk_97, List.forall_mem_cons.mpr ⟨fun _ => qk_98, List.forall_mem_cons.mpr ⟨fun _ => qk_99, List.forall_mem_cons.mpr ⟨fun _ => qk_100, List.forall_mem_cons.mpr ⟨fun _ => qk_101, List.forall_mem_cons.mpr ⟨fun _ => qk_102, List.forall_mem_cons.mpr ⟨fun _ => qk_103, List.forall_mem_cons.mpr ⟨fun _ => qk_104, fun _ h => absurd h List.not_mem_nil⟩⟩⟩⟩⟩⟩⟩⟩⟩⟩⟩⟩⟩⟩⟩⟩⟩⟩⟩⟩⟩
theorem ql_105 : ∀ x ∈ ([105, 106, 107, 108, 109, 110, 111, 112, 113, 114, 115, 116, 117, 118, 119, 120, 121, 122, 123, 124, 125] : List Nat), mk_k x ≠ 2 → ∀ pc, qt_ ((mp_ x).1 pc) = true := List.forall_mem_cons.mpr ⟨fun _ => qk_105, List.forall_mem_cons.mpr ⟨fun _ => qk_106, List.forall_mem_cons.mpr ⟨fun _ => qk_107, List.forall_mem_cons.mpr ⟨fun _ => qk_108, List.forall_mem_cons.mpr ⟨fun _ => qk_109, List.forall_mem_cons.mpr ⟨fun h => absurd rfl h, List.forall_mem_cons.mpr ⟨fun _ => qk_111, List.forall_mem_cons.mpr ⟨fun _ => qk_112, List.forall_mem_cons.mpr ⟨fun _ => qk_113, List.forall_mem_cons.mpr ⟨fun _ => qk_114, List.forall_mem_cons.mpr ⟨fun _ => qk_115, List.forall_mem_cons.mpr ⟨fun _ => qk_116, List.forall_mem_cons.mpr ⟨fun _ => qk_117, List.forall_mem_cons.mpr ⟨fun _ => qk_118, List.forall_mem_cons.mpr ⟨fun _ => qk_119, List.forall_mem_cons.mpr ⟨fun _ => qk_120, List.forall_mem_cons.mpr ⟨fun _ => qk_121, List.forall_mem_cons.mpr ⟨fun _ => qk_122, List.forall_mem_cons.mpr ⟨fun _ => qk_123, List.forall_mem_cons.mpr ⟨fun _ => qk_124, List.forall_mem_cons.mpr ⟨fun _ => qk_125, fun _ h => absurd h List.not_mem_nil⟩⟩⟩⟩⟩⟩⟩⟩⟩⟩⟩⟩⟩⟩⟩⟩⟩⟩⟩⟩⟩
theorem ql_126 : ∀ x ∈ ([126, 127, 128, 129, 130, 131, 132, 133, 134, 135, 136, 137, 138, 139, 140, 141, 142, 143, 144, 145, 146] : List Nat), mk_k x ≠ 2 → ∀ pc, qt_ ((mp_ x).1 pc) = true := List.forall_mem_cons.mpr ⟨fun _ => qk_126, List.forall_mem_cons.mpr ⟨fun _ => qk_127, List.forall_mem_cons.mpr ⟨fun _ => qk_128, List.forall_mem_cons.mpr ⟨fun _ => qk_129, List.forall_mem_cons.mpr ⟨fun _ => qk_130, List.forall_mem_cons.mpr ⟨fun _ => qk_131, List.forall_mem_cons.mpr ⟨fun _ => qk_132, List.forall_mem_cons.mpr ⟨fun _ => qk_133, List.forall_mem_cons.mpr ⟨fun _ => qk_134, List.forall_mem_cons.mpr ⟨fun _ => qk_135, List.forall_mem_cons.mpr ⟨fun _ => qk_136, List.forall_mem_cons.mpr ⟨fun _ => qk_137, List.forall_mem_cons.mpr ⟨fun _ => qk_138, List.forall_mem_cons.mpr ⟨fun _ => qk_139, List.forall_mem_cons.mpr ⟨fun _ => qk_140, List.forall_mem_cons.mpr ⟨fun _ => qk_141, List.forall_mem_cons.mpr ⟨fun _ => qk_142, List.forall_mem_cons.mpr ⟨fun _ => qk_143, List.forall_mem_cons.mpr ⟨fun _ => qk_144, List.forall_mem_cons.mpr ⟨fun _ => qk_145, List.forall_mem_cons.mpr ⟨fun _ => qk_146, fun _ h => absurd h List.not_mem_nil⟩⟩⟩⟩⟩⟩⟩⟩⟩⟩⟩⟩⟩⟩⟩⟩⟩⟩⟩⟩⟩
theorem ql_147 : ∀ x ∈ ([147, 148, 149, 150, 151, 152, 153, 154, 155, 156, 157, 158, 159, 160, 161, 162, 163, 164, 165, 166, 167] : List Nat), mk_k x ≠ 2 → ∀ pc, qt_ ((mp_ x).1 pc) = true := List.forall_mem_cons.mpr ⟨fun _ => qk_147, List.forall_mem_cons.mpr ⟨fun _ => qk_148, List.forall_mem_cons.mpr ⟨fun _ => qk_149, List.forall_mem_cons.mpr ⟨fun _ => qk_150, List.forall_mem_cons.mpr ⟨fun _ => qk_151, List.forall_mem_cons.mpr ⟨fun _ => qk_152, List.forall_mem_cons.mpr ⟨fun _ => qk_153, List.forall_mem_cons.mpr ⟨fun _ => qk_154, List.forall_mem_cons.mpr ⟨fun _ => qk_155, List.forall_mem_cons.mpr ⟨fun _ => qk_156, List.forall_mem_cons.mpr ⟨fun _ => qk_157, List.forall_mem_cons.mpr ⟨fun _ => qk_158, List.forall_mem_cons.mpr ⟨fun _ => qk_159, List.forall_mem_cons.mpr ⟨fun _ => qk_160, List.forall_mem_cons.mpr ⟨fun _ => qk_161, List.forall_mem_cons.mpr ⟨fun _ => qk_162, List.forall_mem_cons.mpr ⟨fun _ => qk_163, List.forall_mem_cons.mpr ⟨fun _ => qk_164, List.forall_mem_cons.mpr ⟨fun _ => qk_165, List.forall_mem_cons.mpr ⟨fun _ => qk_166, List.forall_mem_cons.mpr ⟨fun _ => qk_167, fun _ h => absurd h List.not_mem_nil⟩⟩⟩⟩⟩⟩⟩⟩⟩⟩⟩⟩⟩⟩⟩⟩⟩⟩⟩⟩⟩
theorem ql_168 : ∀ x ∈ ([168, 169, 170, 171, 172, 173, 174, 175, 176, 177, 178, 179, 180, 181, 182, 183, 184, 185, 186] : List Nat), mk_k x ≠ 2 → ∀ pc, qt_ ((mp_ x).1 pc) = true := List.forall_mem_cons.mpr ⟨fun _ => qk_168, List.forall_mem_cons.mpr ⟨fun _ => qk_169, List.forall_mem_cons.mpr ⟨fun _ => qk_170, List.forall_mem_cons.mpr ⟨fun _ => qk_171, List.forall_mem_cons.mpr ⟨fun _ => qk_172, List.forall_mem_cons.mpr ⟨fun _ => qk_173, List.forall_mem_cons.mpr ⟨fun _ => qk_174, List.forall_mem_cons.mpr ⟨fun _ => qk_175, List.forall_mem_cons.mpr ⟨fun _ => qk_176, List.forall_mem_cons.mpr ⟨fun _ => qk_177, List.forall_mem_cons.mpr ⟨fun _ => qk_178, List.forall_mem_cons.mpr ⟨fun _ => qk_179, List.forall_mem_cons.mpr ⟨fun _ => qk_180, List.forall_mem_cons.mpr ⟨fun _ => qk_181, List.forall_mem_cons.mpr ⟨fun _ => qk_182, List.forall_mem_cons.mpr ⟨fun _ => qk_183, List.forall_mem_cons.mpr ⟨fun _ => qk_184, List.forall_mem_cons.mpr ⟨fun _ => qk_185, List.forall_mem_cons.mpr ⟨fun _ => qk_186, fun _ h => absurd h List.not_mem_nil⟩⟩⟩⟩⟩⟩⟩⟩⟩⟩⟩⟩⟩⟩⟩⟩⟩⟩⟩
theorem qk_all {x : Nat} (hx : x < 187) (hk : mk_k x ≠ 2) : ∀ pc, qt_ ((mp_ x).1 pc) = true := (show ∀ x ∈ ([0, 1, 2, 3, 4, 5, 6, 7, 8, 9, 10, 11, 12, 13, 14, 15, 16, 17, 18, 19, 20] : List Nat) ++ (([21, 22, 23, 24, 25, 26, 27, 28, 29, 30, 31, 32, 33, 34, 35, 36, 37, 38, 39, 40, 41] : List Nat) ++ (([42, 43, 44, 45, 46, 47, 48, 49, 50, 51, 52, 53, 54, 55, 56, 57, 58, 59, 60, 61, 62] : List Nat) ++ (([63, 64, 65, 66, 67, 68, 69, 70, 71, 72, 73, 74, 75, 76, 77, 78, 79, 80, 81, 82, 83] : List Nat) ++ (([84, 85, 86, 87, 88, 89, 90, 91, 92, 93, 94, 95, 96, 97, 98, 99, 100, 101, 102, 103, 104] : List Nat) ++ (([105, 106, 107, 108, 109, 110, 111, 112, 113, 114, 115, 116, 117, 118, 119, 120, 121, 122, 123, 124, 125] : List Nat) ++ (([126, 127, 128, 129, 130, 131, 132, 133, 134, 135, 136, 137, 138, 139, 140, 141, 142, 143, 144, 145, 146] : List Nat) ++ (([147, 148, 149, 150, 151, 152, 153, 154, 155, 156, 157, 158, 159, 160, 161, 162, 163, 164, 165, 166, 167] : List Nat) ++ (([168, 169, 170, 171, 172, 173, 174, 175, 176, 177, 178, 179, 180, 181, 182, 183, 184, 185, 186] : List Nat))))))))), mk_k x ≠ 2 → ∀ pc, qt_ ((mp_ x).1 pc) = true from List.forall_mem_append.mpr ⟨ql_0, List.forall_mem_append.mpr ⟨ql_21, List.forall_mem_append.mpr ⟨ql_42, List.forall_mem_append.mpr ⟨ql_63, List.forall_mem_append.mpr ⟨ql_84, List.forall_mem_append.mpr ⟨ql_105, List.forall_mem_append.mpr ⟨ql_126, List.forall_mem_append.mpr ⟨ql_147, ql_168⟩⟩⟩⟩⟩⟩⟩⟩) x (by rw [show ([0, 1, 2, 3, 4, 5, 6, 7, 8, 9, 10, 11, 12, 13, 14, 15, 16, 17, 18, 19, 20] : List Nat) ++ (([21, 22, 23, 24, 25, 26, 27, 28, 29, 30, 31, 32, 33, 34, 35, 36, 37, 38, 39, 40, 41] : List Nat) ++ (([42, 43, 44, 45, 46, 47, 48, 49, 50, 51, 52, 53, 54, 55, 56, 57, 58, 59, 60, 61, 62] : List Nat) ++ (([63, 64, 65, 66, 67, 68, 69, 70, 71, 72, 73, 74, 75, 76, 77, 78, 79, 80, 81, 82, 83] : List Nat) ++ (([84, 85, 86, 87, 88, 89, 90, 91, 92, 93, 94, 95, 96, 97, 98, 99, 100, 101, 102, 103, 104] : List Nat) ++ (([105, 106, 107, 108, 109, 110, 111, 112, 113, 114, 115, 116, 117, 118, 119, 120, 121, 122, 123, 124, 125] : List Nat) ++ (([126, 127, 128, 129, 130, 131, 132, 133, 134, 135, 136, 137, 138, 139, 140, 141, 142, 143, 144, 145, 146] : List Nat) ++ (([147, 148, 149, 150, 151, 152, 153, 154, 155, 156, 157, 158, 159, 160, 161, 162, 163, 164, 165, 166, 167] : List Nat) ++ (([168, 169, 170, 171, 172, 173, 174, 175, 176, 177, 178, 179, 180, 181, 182, 183, 184, 185, 186] : List Nat))))))))) = List.range 187 from by decide +kernel]; exact List.mem_range.mpr hx) hk
/-- a quiet step goes on with quiet stores alone -/
theorem qt_st {ρ σ : Type} {G : ρ → σ → Prop} {fl : ρ} {fm : σ} (xs : Nat → Int32) (L : Nat) (sw : Nat → List (Int × Nat)) (e : en_) (he : qt_ e = true) (pc : Nat) (ls : lo_) (st : List Value) (D : dy_) {rt : Option Value → hp_ → ρ} {rt' : Option Value → hp_ → σ} {k : Nat → lo_ → List Value → hp_ → ρ} {k' : Nat → lo_ → List Value → hp_ → σ} {iv : Nat → List Value → hp_ → (Option Value → hp_ → ρ) → ρ} {iv' : Nat → List Value → hp_ → (Option Value → hp_ → σ) → σ}
    (h0 : G fl fm) (hr : ∀ v D, G (rt v (hq_ D)) (rt' v (hq_ D))) (hk : ∀ pc ls st D, G (k pc ls st (hq_ D)) (k' pc ls st (hq_ D))) (hi : ∀ m as D f g, (∀ v D, G (f v (hq_ D)) (g v (hq_ D))) → G (iv m as (hq_ D) f) (iv' m as (hq_ D) g)) :
    G (st_ xs L sw e pc ls st (hq_ D) fl rt k iv) (st_ xs L sw e pc ls st (hq_ D) fm rt' k' iv') := by
  obtain ⟨op, e⟩ := e
  unfold st_
  match op, he with
  | 0, _ | 1, _ | 12, _ => exact hk _ _ _ _
  | 2, _ => exact pa_o _ h0 fun _ => pa_ty _ _ h0 fun _ => hk _ _ _ _
  | 3, _ => exact pa_p _ h0 fun _ _ => pa_ty _ _ h0 fun _ => hk _ _ _ _
  | 4, _ => exact pa_o _ h0 fun _ => pa_i _ h0 fun _ => hk _ _ _ _
  | 5, _ => exact pa_pi _ h0 fun _ _ => pa_pi _ h0 fun _ _ => pa_ib _ _ _ h0 fun _ => hk _ _ _ _
  | 6, _ => exact pa_pl _ h0 fun _ _ => pa_pl _ h0 fun _ _ => pa_lb _ _ _ h0 fun _ => hk _ _ _ _
  | 7, _ => exact pa_pi _ h0 fun _ _ => pa_pl _ h0 fun _ _ => pa_ls _ _ _ h0 fun _ => hk _ _ _ _
  | 8, _ => exact pa_p _ h0 fun _ _ => pa_cv _ _ h0 fun _ => hk _ _ _ _
  | 9, _ => exact pa_pl _ h0 fun _ _ => pa_pl _ h0 fun _ _ => hk _ _ _ _
  | 10, _ => exact pa_pi _ h0 fun _ _ => pa_cc _ _ _ h0 (hk _ _ _ _) (hk _ _ _ _)
  | 11, _ => exact pa_pi _ h0 fun _ _ => pa_pi _ h0 fun _ _ => pa_cc _ _ _ h0 (hk _ _ _ _) (hk _ _ _ _)
  | 13, _ => exact pa_pr _ h0 fun _ _ => pa_if _ (pa_gf _ _ _ _ h0 fun _ => hk _ _ _ _) h0
  | 14, he =>
    refine pa_p _ h0 fun v _ => pa_pr _ h0 fun a _ => pa_if _ ?_ h0
    have he : (e.2.2.2.1 != 2) = true := he
    revert he
    show (e.2.2.2.1 != 2) = true → G (mk_pf e.2.2.2.1 _ _ _ _ _ _ _) (mk_pf e.2.2.2.1 _ _ _ _ _ _ _)
    generalize e.2.2.2.1 = z
    intro he
    match z, he with
    | 0, _ => exact pa_i _ h0 fun n => hk _ _ _ (va_up D.1 a (va_up (D.1 a) e.2.2.1 n), D.2)
    | 1, _ => exact pa_i _ h0 fun n => pa_if _ (hk _ _ _ (va_up D.1 a (va_up (D.1 a) e.2.2.1 n), D.2)) h0
    | z + 3, _ => exact h0
  | 15, _ => exact pa_pi _ h0 fun _ _ => pa_pr _ h0 fun _ _ => pa_al _ _ _ _ h0 fun _ => hk _ _ _ _
  | 16, he =>
    refine pa_p _ h0 fun v _ => pa_pi _ h0 fun i _ => pa_pr _ h0 fun a _ => pa_if _ (pa_if _ h0 ?_) h0
    have he : (e.2.1 != 5) = true := he
    revert he
    generalize e.2.1 = z
    intro he
    match z, he with
    | 0, _ => exact h0
    | 1, _ => exact pa_i _ h0 fun n => hk _ _ _ (va_up D.1 a (va_up (D.1 a) i.toNatClampNeg n), D.2)
    | 2, _ => exact pa_i _ h0 fun n => hk _ _ _ (va_up D.1 a (va_up (D.1 a) i.toNatClampNeg (vp_nar .boolean n)), D.2)
    | 3, _ => exact pa_i _ h0 fun n => hk _ _ _ (va_up D.1 a (va_up (D.1 a) i.toNatClampNeg (vp_nar .byte n)), D.2)
    | 4, _ => exact pa_l _ h0 fun n => hk _ _ _ (D.1, va_up D.2 a (va_up (D.2 a) i.toNatClampNeg n))
    | z + 6, _ => exact h0
  | 17, _ => exact pa_pr _ h0 fun _ _ => pa_if _ (hk _ _ _ _) h0
  | 18, _ | 19, _ => exact pa_p _ h0 fun _ _ => pa_if _ (hk _ _ _ _) h0
  | 20, _ => exact pa_p _ h0 fun _ _ => pa_p _ h0 fun _ _ => pa_if _ (hk _ _ _ _) h0
  | 23, _ => exact h0
  | 24, _ => exact pa_if _ (pa_rc _ _ _ h0 (hi _ _ _ _ _ fun _ _ => pa_rv _ _ _ h0 fun _ => hk _ _ _ _)) h0
  | 25, _ => exact pa_pr _ h0 fun _ _ => pa_if _ (hk _ _ _ _) h0
  | 26, _ => exact pa_pi _ h0 fun n _ => pa_pi _ h0 fun dp _ => pa_pr _ h0 fun a _ => pa_pi _ h0 fun sp _ => pa_pr _ h0 fun a0 _ => pa_if _ (hk _ _ _ (va_up D.1 a (va_cpy (D.1 a0) (D.1 a) sp.toNatClampNeg dp.toNatClampNeg n.toNatClampNeg), D.2)) h0
  | 27, _ => exact pa_p _ h0 fun _ _ => pa_e _ h0 (pa_rt _ _ h0 fun _ => hr _ _)
  | 28, _ | 29, _ => exact pa_pi _ h0 fun _ _ => pa_pi _ h0 fun _ _ => pa_if _ (hk _ _ _ _) h0
  | 30, _ => exact pa_e _ h0 (hr _ _)
  | 31, _ => exact pa_pi _ h0 fun _ _ => pa_sw _ _ _ fun _ => hk _ _ _ _
  | 32, _ => exact pa_pi _ h0 fun _ _ => pa_pr _ h0 fun _ _ => pa_if _ (pa_if _ h0 (hk _ _ _ _)) h0
  | 33, _ => exact pa_pr _ h0 fun _ _ => pa_if _ (hk _ _ _ _) h0
  | _ + 34, _ => exact h0
def sq_ (xs : Nat → Int32) (L : Nat) (mt : mt_) (ck : Nat → List Value → dy_ → rd_) (kk : Nat → lo_ → List Value → dy_ → rd_) : Nat → Nat → lo_ → List Value → dy_ → rd_
  | 0, _, _, _, _ => none
  | n + 1, pc, ls, st, D => st_ xs L mt.2.2.1 (mt.1 pc) pc ls st (hq_ D) none (fun v h => some (v, dn_ h)) (fun pc ls st h => op_o (mt.2.1 pc) (sq_ xs L mt ck kk n pc ls st (dn_ h)) fun lv => kk pc (mk_pk lv ls) st (dn_ h)) (fun m as h f => op_o (ck m as (dn_ h)) none fun p => f p.1 (hq_ p.2))
theorem sq_mono (xs : Nat → Int32) (L : Nat) (mt : mt_) (ck : Nat → List Value → dy_ → rd_) {k k' : Nat → lo_ → List Value → dy_ → rd_} (hk : ∀ pc ls st h, le_ (k pc ls st h) (k' pc ls st h)) : ∀ n pc ls st h, le_ (sq_ xs L mt ck k n pc ls st h) (sq_ xs L mt ck k' n pc ls st h) := by
  intro n
  induction n with
  | zero => exact fun _ _ _ _ => le_r _
  | succ n ih =>
    intro pc ls st h
    exact pa_st (G := le_) xs L mt.2.2.1 _ pc ls st _ (le_r _) (fun _ _ => le_r _) (fun pc ls st h => pa_o (G := le_) _ (ih _ _ _ _) fun _ => hk _ _ _ _) (fun m as h f g hf => pa_o (G := le_) _ (le_r _) fun p => hf _ _)
theorem sq_lim (xs : Nat → Int32) (L : Nat) (mt : mt_) (ck : Nat → List Value → dy_ → rd_) {k : Nat → Nat → lo_ → List Value → dy_ → rd_} {k' : Nat → lo_ → List Value → dy_ → rd_} (hk : ∀ pc ls st h x, k' pc ls st h = some x → ∃ i, k i pc ls st h = some x) :
    ∀ n pc ls st h x, sq_ xs L mt ck k' n pc ls st h = some x → ∃ i, sq_ xs L mt ck (k i) n pc ls st h = some x := by
  intro n
  induction n with
  | zero => exact fun _ _ _ _ _ h => by cases h
  | succ n ih =>
    intro pc ls st h
    have key : (fun (a : rd_) (b : Nat → rd_) => (∀ x, a = some x → ∃ i, b i = some x)) (sq_ xs L mt ck k' (n + 1) pc ls st h) (fun i => sq_ xs L mt ck (k i) (n + 1) pc ls st h) := by
      have e : (fun i => sq_ xs L mt ck (k i) (n + 1) pc ls st h) = st_ xs L mt.2.2.1 (mt.1 pc) pc ls st (hq_ h) (fun _ => none) (fun v h _ => some (v, dn_ h)) (fun pc ls st h i => op_o (mt.2.1 pc) (sq_ xs L mt ck (k i) n pc ls st (dn_ h)) fun lv => k i pc (mk_pk lv ls) st (dn_ h)) (fun m as h f i => op_o (ck m as (dn_ h)) none fun p => f p.1 (hq_ p.2) i) := by
        funext i
        refine Eq.symm ?_
        refine pa_st (G := fun (a : Nat → rd_) (b : rd_) => a i = b) (fl := fun _ => none) (fm := none) (rt := fun v h _ => some (v, dn_ h)) (rt' := fun v h => some (v, dn_ h)) (k := fun pc ls st h i => op_o (mt.2.1 pc) (sq_ xs L mt ck (k i) n pc ls st (dn_ h)) fun lv => k i pc (mk_pk lv ls) st (dn_ h)) (k' := fun pc ls st h => op_o (mt.2.1 pc) (sq_ xs L mt ck (k i) n pc ls st (dn_ h)) fun lv => k i pc (mk_pk lv ls) st (dn_ h)) (iv := fun m as h f i => op_o (ck m as (dn_ h)) none fun p => f p.1 (hq_ p.2) i) (iv' := fun m as h f => op_o (ck m as (dn_ h)) none fun p => f p.1 (hq_ p.2)) xs L mt.2.2.1 (mt.1 pc) pc ls st (hq_ h) rfl (fun _ _ => rfl) (fun _ _ _ _ => rfl) (fun m as h f g hf => ?_)
        show op_o (ck m as (dn_ h)) none (fun p => f p.1 (hq_ p.2) i) = op_o (ck m as (dn_ h)) none (fun p => g p.1 (hq_ p.2))
        cases ck m as (dn_ h) with
        | none => rfl
        | some p => exact hf _ _
      rw [e]
      refine pa_st (G := fun (a : rd_) (b : Nat → rd_) => (∀ x, a = some x → ∃ i, b i = some x)) xs L mt.2.2.1 _ pc ls st _ ?_ ?_ ?_ ?_
      · exact fun _ h => by cases h
      · exact fun _ _ x h => ⟨0, h⟩
      · intro pc ls st h x hx
        show ∃ i, op_o (mt.2.1 pc) (sq_ xs L mt ck (k i) n pc ls st (dn_ h)) (fun lv => k i pc (mk_pk lv ls) st (dn_ h)) = some x
        cases he : mt.2.1 pc with
        | none =>
          rw [he] at hx
          exact ih _ _ _ _ _ hx
        | some lv =>
          rw [he] at hx
          exact hk _ _ _ _ _ hx
      · intro m as h f g hf x hx
        show ∃ i, op_o (ck m as (dn_ h)) none (fun p => g p.1 (hq_ p.2) i) = some x
        cases he : ck m as (dn_ h) with
        | none => rw [he] at hx; cases hx
        | some p =>
          rw [he] at hx
          exact hf _ _ _ hx
    exact key
def rq_ (xs : Nat → Int32) (L : Nat) (mt : mt_) (ck : Nat → List Value → dy_ → rd_) : Nat → Nat → lo_ → List Value → dy_ → rd_
  | 0, _, _, _, _ => none
  | n + 1, pc, ls, st, h => sq_ xs L mt ck (rq_ xs L mt ck n) mk_B pc ls st h
theorem rq_mono (xs : Nat → Int32) (L : Nat) (mt : mt_) (ck : Nat → List Value → dy_ → rd_) : ∀ n pc ls st h, le_ (rq_ xs L mt ck n pc ls st h) (rq_ xs L mt ck (n + 1) pc ls st h) := by
  intro n
  induction n with
  | zero => exact fun _ _ _ _ => le_n _
  | succ n ih => exact fun pc ls st h => sq_mono xs L mt ck ih _ _ _ _ _
/-- the quiet methods: no constructor, not the law -/
def pq_ (m : Nat) : mt_ := cond (Nat.ble 187 m) (fun _ => (99, 0, 0, 0, 0, 0), fun _ => none, fun _ => [], 0) (cond (Nat.beq (mk_k m) 2) (fun _ => (99, 0, 0, 0, 0, 0), fun _ => none, fun _ => [], 0) (mp_ m))
/-- THE QUIET EVALUATOR -/
noncomputable def qv_ (xs : Nat → Int32) (L : Nat) : Nat → Nat → Nat → lo_ → List Value → dy_ → rd_
  | 0, _, _, _, _, _ => none
  | d + 1, m, pc, ls, st, h => lm_ (fun n => rq_ xs L (pq_ m) (fun m as h => if mk_ca as ≤ (pq_ m).2.2.2 then qv_ xs L d m 0 (lv_args 0 as) [] h else none) n pc ls st h)
theorem qv_eq (xs : Nat → Int32) (L d m pc : Nat) (ls : lo_) (st : List Value) (h : dy_) : qv_ xs L (d + 1) m pc ls st h = sq_ xs L (pq_ m) (fun m as h => if mk_ca as ≤ (pq_ m).2.2.2 then qv_ xs L d m 0 (lv_args 0 as) [] h else none) (fun pc ls st h => qv_ xs L (d + 1) m pc ls st h) mk_B pc ls st h := by
  have hmo : ∀ pc ls st h, mo_ (fun n => rq_ xs L (pq_ m) (fun m as h => if mk_ca as ≤ (pq_ m).2.2.2 then qv_ xs L d m 0 (lv_args 0 as) [] h else none) n pc ls st h) := fun pc ls st h n => rq_mono _ _ _ _ n pc ls st h
  refine le_anti (fun x hx => ?_) (fun x hx => ?_)
  · have hx' : lm_ (fun n => rq_ xs L (pq_ m) (fun m as h => if mk_ca as ≤ (pq_ m).2.2.2 then qv_ xs L d m 0 (lv_args 0 as) [] h else none) n pc ls st h) = some x := hx
    obtain ⟨n, hn⟩ := lm_ex hx'
    cases n with
    | zero => cases hn
    | succ n => exact sq_mono _ _ _ _ (fun pc ls st h y hy => lm_of (hmo pc ls st h) hy) _ _ _ _ _ _ hn
  · obtain ⟨n, hn⟩ := sq_lim xs L (pq_ m) (fun m as h => if mk_ca as ≤ (pq_ m).2.2.2 then qv_ xs L d m 0 (lv_args 0 as) [] h else none) (k := fun n => rq_ xs L (pq_ m) (fun m as h => if mk_ca as ≤ (pq_ m).2.2.2 then qv_ xs L d m 0 (lv_args 0 as) [] h else none) n) (fun pc ls st h y hy => lm_ex hy) _ _ _ _ _ _ hx
    exact lm_of (hmo pc ls st h) (n := n + 1) hn
/-! what the quiet machine says, the small machine says -/
def gq_ (a : rd_) (b : re_) : Prop := ∀ v D, a = some (v, D) → b = some (v, hq_ D)
theorem sq_ok (xs : Nat → Int32) (L : Nat) (mt : mt_) (hq : ∀ pc, qt_ (mt.1 pc) = true) {ck : Nat → List Value → dy_ → rd_} {ck' : Nat → List Value → hp_ → re_} {k : Nat → lo_ → List Value → dy_ → rd_} {k' : Nat → lo_ → List Value → hp_ → re_} (hc : ∀ m as D, gq_ (ck m as D) (ck' m as (hq_ D))) (hk : ∀ pc ls st D, gq_ (k pc ls st D) (k' pc ls st (hq_ D))) : ∀ n pc ls st D, gq_ (sq_ xs L mt ck k n pc ls st D) (sg_ xs L mt ck' k' n pc ls st (hq_ D)) := by
  intro n
  induction n with
  | zero => exact fun _ _ _ _ _ _ q => by cases q
  | succ n ih =>
    intro pc ls st D
    refine qt_st (G := gq_) xs L mt.2.2.1 _ (hq pc) pc ls st D (fun _ _ q => by cases q) (fun v D v' D' q => by cases q; rfl) (fun pc ls st D => pa_o (G := gq_) _ (ih _ _ _ _) fun _ => hk _ _ _ _) (fun m as D f g hf => ?_)
    intro v D' hx
    obtain ⟨p, hp, hx⟩ := iv_o hx
    have h1 := hc m as D p.1 p.2 hp
    show op_o (ck' m as (hq_ D)) none (fun p => g p.1 p.2) = _
    rw [h1]
    exact hf _ _ _ _ hx
theorem rq_ok (xs : Nat → Int32) (L : Nat) (mt : mt_) (hq : ∀ pc, qt_ (mt.1 pc) = true) {ck : Nat → List Value → dy_ → rd_} {ck' : Nat → List Value → hp_ → re_} (hc : ∀ m as D, gq_ (ck m as D) (ck' m as (hq_ D))) : ∀ n pc ls st D, gq_ (rq_ xs L mt ck n pc ls st D) (rn_ xs L mt ck' n pc ls st (hq_ D)) := by
  intro n
  induction n with
  | zero => exact fun _ _ _ _ _ _ q => by cases q
  | succ n ih => exact fun pc ls st D => sq_ok xs L mt hq hc ih _ _ _ _ _
theorem pq_ok (m pc : Nat) : qt_ ((pq_ m).1 pc) = true := by
  unfold pq_
  cases h1 : Nat.ble 187 m with
  | true => rfl
  | false =>
    cases h2 : Nat.beq (mk_k m) 2 with
    | true => rfl
    | false =>
      have h3 : m < 187 := Nat.lt_of_not_le fun h => by rw [Nat.ble_eq_true_of_le h] at h1; cases h1
      have h4 : mk_k m ≠ 2 := fun h => by rw [h] at h2; cases h2
      exact qk_all h3 h4 pc
theorem pq_eq {m : Nat} {P : mt_ → Prop} (h : P (pq_ m)) : P (fun _ => (99, 0, 0, 0, 0, 0), fun _ => none, fun _ => [], 0) ∨ P (mp_ m) := by
  unfold pq_ at h
  cases h1 : Nat.ble 187 m with
  | true => rw [h1] at h; exact Or.inl h
  | false =>
    cases h2 : Nat.beq (mk_k m) 2 with
    | true => rw [h1, h2] at h; exact Or.inl h
    | false => rw [h1, h2] at h; exact Or.inr h
theorem rq_dead (xs : Nat → Int32) (L : Nat) (ck : Nat → List Value → dy_ → rd_) : ∀ n pc ls st D, rq_ xs L (fun _ => (99, 0, 0, 0, 0, 0), fun _ => none, fun _ => [], 0) ck n pc ls st D = none := by
  intro n pc ls st D
  cases n <;> rfl
/-- THE BRIDGE: a quiet evaluation is one of the small machine -/
theorem qv_ok (xs : Nat → Int32) (L : Nat) : ∀ d m pc ls st D, gq_ (qv_ xs L d m pc ls st D) (ev_ xs L mp_ d m pc ls st (hq_ D)) := by
  intro d
  induction d with
  | zero => exact fun _ _ _ _ _ _ _ q => by cases q
  | succ d ih =>
    intro m pc ls st D v D' hx
    obtain ⟨n, hn⟩ := lm_ex (f := fun n => rq_ xs L (pq_ m) (fun m as h => if mk_ca as ≤ (pq_ m).2.2.2 then qv_ xs L d m 0 (lv_args 0 as) [] h else none) n pc ls st D) hx
    have hq := pq_ok m
    rcases pq_eq (m := m) (P := fun mt => (∀ pc, qt_ (mt.1 pc) = true) ∧ rq_ xs L mt (fun m as h => if mk_ca as ≤ (pq_ m).2.2.2 then qv_ xs L d m 0 (lv_args 0 as) [] h else none) n pc ls st D = some (v, D')) ⟨hq, hn⟩ with ⟨-, h1⟩ | ⟨h0, h1⟩
    · rw [rq_dead] at h1
      cases h1
    · have h2 := rq_ok xs L (mp_ m) h0 (ck' := fun m as h => if mk_ca as ≤ (mp_ m).2.2.2 then ev_ xs L mp_ d m 0 (lv_args 0 as) [] h else none) (fun m as D v D' hx => by
        obtain ⟨hc, hx⟩ := iv_t hx
        show (if mk_ca as ≤ (mp_ m).2.2.2 then ev_ xs L mp_ d m 0 (lv_args 0 as) [] (hq_ D) else none) = _
        have h9 : mk_ca as ≤ (mp_ m).2.2.2 := by
          cases d with
          | zero => cases hx
          | succ d =>
            obtain ⟨n', hn'⟩ := lm_ex (f := fun n => rq_ xs L (pq_ m) (fun m as h => if mk_ca as ≤ (pq_ m).2.2.2 then qv_ xs L d m 0 (lv_args 0 as) [] h else none) n 0 (lv_args 0 as) [] D) hx
            rcases pq_eq (m := m) (P := fun mt => mk_ca as ≤ mt.2.2.2 ∧ rq_ xs L mt (fun m as h => if mk_ca as ≤ (pq_ m).2.2.2 then qv_ xs L d m 0 (lv_args 0 as) [] h else none) n' 0 (lv_args 0 as) [] D = some (v, D')) ⟨hc, hn'⟩ with ⟨-, h4⟩ | ⟨h3, -⟩
            · rw [rq_dead] at h4
              cases h4
            · exact h3
        rw [if_pos h9]
        exact ih _ _ _ _ _ _ _ hx) n pc ls st D v D' h1
      exact lm_of (fun n => rn_mono _ _ _ _ n pc ls st _) h2

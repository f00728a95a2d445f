/-! EVERY INSTRUCTION IS WHAT THE CLASS FILES SAY (by program) -/
set_option maxRecDepth 100000 in
theorem ck224 : aOKgm 224 0 aC224 = true := by decide +kernel
set_option maxRecDepth 100000 in
theorem ck225 : aOKgm 225 0 aC225 = true := by decide +kernel
set_option maxRecDepth 100000 in
theorem ck226 : aOKgm 226 0 aC226 = true := by decide +kernel
set_option maxRecDepth 100000 in
theorem ck227 : aOKgm 227 0 aC227 = true := by decide +kernel
set_option maxRecDepth 100000 in
theorem ck228 : aOKgm 228 0 aC228 = true := by decide +kernel
set_option maxRecDepth 100000 in
theorem ck229 : aOKgm 229 0 aC229 = true := by decide +kernel
set_option maxRecDepth 100000 in
theorem ck230 : aOKgm 230 0 aC230 = true := by decide +kernel
set_option maxRecDepth 100000 in
theorem ck231 : aOKgm 231 0 aC231 = true := by decide +kernel
set_option maxRecDepth 100000 in
theorem ck232 : aOKgm 232 0 aC232 = true := by decide +kernel
set_option maxRecDepth 100000 in
theorem ck233 : aOKgm 233 0 aC233 = true := by decide +kernel
set_option maxRecDepth 100000 in
theorem ck234 : aOKgm 234 0 aC234 = true := by decide +kernel
set_option maxRecDepth 100000 in
theorem ck235 : aOKgm 235 0 aC235 = true := by decide +kernel
set_option maxRecDepth 100000 in
theorem ck236 : aOKgm 236 0 aC236 = true := by decide +kernel
set_option maxRecDepth 100000 in
theorem ck237 : aOKgm 237 0 aC237 = true := by decide +kernel
set_option maxRecDepth 100000 in
theorem ck238 : aOKgm 238 0 aC238 = true := by decide +kernel
set_option maxRecDepth 100000 in
theorem ck239 : aOKgm 239 0 aC239 = true := by decide +kernel
set_option maxRecDepth 100000 in
theorem ck240 : aOKgm 240 0 aC240 = true := by decide +kernel
set_option maxRecDepth 100000 in
theorem ck241 : aOKgm 241 0 aC241 = true := by decide +kernel
set_option maxRecDepth 100000 in
theorem ck242 : aOKgm 242 0 aC242 = true := by decide +kernel
set_option maxRecDepth 100000 in
theorem ck243 : aOKgm 243 0 aC243 = true := by decide +kernel
set_option maxRecDepth 100000 in
theorem ck244 : aOKgm 244 0 aC244 = true := by decide +kernel
set_option maxRecDepth 100000 in
theorem ck245 : aOKgm 245 0 aC245 = true := by decide +kernel
set_option maxRecDepth 100000 in
theorem ck246 : aOKgm 246 0 aC246 = true := by decide +kernel
set_option maxRecDepth 100000 in
theorem ck247 : aOKgm 247 0 aC247 = true := by decide +kernel
set_option maxRecDepth 100000 in
theorem ck248 : aOKgm 248 0 aC248 = true := by decide +kernel
set_option maxRecDepth 100000 in
theorem ck249 : aOKgm 249 0 aC249 = true := by decide +kernel
set_option maxRecDepth 100000 in
theorem ck250 : aOKgm 250 0 aC250 = true := by decide +kernel
set_option maxRecDepth 100000 in
theorem ck251 : aOKgm 251 0 aC251 = true := by decide +kernel
set_option maxRecDepth 100000 in
theorem ck252 : aOKgm 252 0 aC252 = true := by decide +kernel
set_option maxRecDepth 100000 in
theorem ck253 : aOKgm 253 0 aC253 = true := by decide +kernel
set_option maxRecDepth 100000 in
theorem ck254 : aOKgm 254 0 aC254 = true := by decide +kernel
set_option maxRecDepth 100000 in
theorem ck255 : aOKgm 255 0 aC255 = true := by decide +kernel
set_option maxRecDepth 100000 in
theorem ck256 : aOKgm 256 0 aC256 = true := by decide +kernel
set_option maxRecDepth 100000 in
theorem ck257 : aOKgm 257 0 aC257 = true := by decide +kernel
set_option maxRecDepth 100000 in
theorem ck258 : aOKgm 258 0 aC258 = true := by decide +kernel
set_option maxRecDepth 100000 in
theorem ck259 : aOKgm 259 0 aC259 = true := by decide +kernel
set_option maxRecDepth 100000 in
theorem ck260 : aOKgm 260 0 aC260 = true := by decide +kernel
set_option maxRecDepth 100000 in
theorem ck261 : aOKgm 261 0 aC261 = true := by decide +kernel
set_option maxRecDepth 100000 in
theorem ck262 : aOKgm 262 0 aC262 = true := by decide +kernel
set_option maxRecDepth 100000 in
theorem ck263 : aOKgm 263 0 aC263 = true := by decide +kernel
set_option maxRecDepth 100000 in
theorem ck264 : aOKgm 264 0 aC264 = true := by decide +kernel
set_option maxRecDepth 100000 in
theorem ck265 : aOKgm 265 0 aC265 = true := by decide +kernel
set_option maxRecDepth 100000 in
theorem ck266 : aOKgm 266 0 aC266 = true := by decide +kernel
set_option maxRecDepth 100000 in
theorem ck267 : aOKgm 267 0 aC267 = true := by decide +kernel
set_option maxRecDepth 100000 in
theorem ck268 : aOKgm 268 0 aC268 = true := by decide +kernel
set_option maxRecDepth 100000 in
theorem ck269 : aOKgm 269 0 aC269 = true := by decide +kernel
set_option maxRecDepth 100000 in
theorem ck270 : aOKgm 270 0 aC270 = true := by decide +kernel
set_option maxRecDepth 100000 in
theorem ck271 : aOKgm 271 0 aC271 = true := by decide +kernel
set_option maxRecDepth 100000 in
theorem ck272 : aOKgm 272 0 aC272 = true := by decide +kernel
set_option maxRecDepth 100000 in
theorem ck273 : aOKgm 273 0 aC273 = true := by decide +kernel
set_option maxRecDepth 100000 in
theorem ck274 : aOKgm 274 0 aC274 = true := by decide +kernel
set_option maxRecDepth 100000 in
theorem ck275 : aOKgm 275 0 aC275 = true := by decide +kernel
set_option maxRecDepth 100000 in
theorem ck276 : aOKgm 276 0 aC276 = true := by decide +kernel
set_option maxRecDepth 100000 in
theorem ck277 : aOKgm 277 0 aC277 = true := by decide +kernel
set_option maxRecDepth 100000 in
theorem ck278 : aOKgm 278 0 aC278 = true := by decide +kernel
set_option maxRecDepth 100000 in
theorem ck279 : aOKgm 279 0 aC279 = true := by decide +kernel
set_option maxRecDepth 100000 in
theorem ck280 : aOKgm 280 0 aC280 = true := by decide +kernel
set_option maxRecDepth 100000 in
theorem ck281 : aOKgm 281 0 aC281 = true := by decide +kernel
set_option maxRecDepth 100000 in
theorem ck282 : aOKgm 282 0 aC282 = true := by decide +kernel
set_option maxRecDepth 100000 in
theorem ck283 : aOKgm 283 0 aC283 = true := by decide +kernel
set_option maxRecDepth 100000 in
theorem ck284 : aOKgm 284 0 aC284 = true := by decide +kernel
set_option maxRecDepth 100000 in
theorem ck285 : aOKgm 285 0 aC285 = true := by decide +kernel
set_option maxRecDepth 100000 in
theorem ck286 : aOKgm 286 0 aC286 = true := by decide +kernel
set_option maxRecDepth 100000 in
theorem ck287 : aOKgm 287 0 aC287 = true := by decide +kernel
set_option maxRecDepth 100000 in
theorem ck288 : aOKgm 288 0 aC288 = true := by decide +kernel
set_option maxRecDepth 100000 in
theorem ck289 : aOKgm 289 0 aC289 = true := by decide +kernel
set_option maxRecDepth 100000 in
theorem ck290 : aOKgm 290 0 aC290 = true := by decide +kernel
set_option maxRecDepth 100000 in
theorem ck291 : aOKgm 291 0 aC291 = true := by decide +kernel
set_option maxRecDepth 100000 in
theorem ck292 : aOKgm 292 0 aC292 = true := by decide +kernel
set_option maxRecDepth 100000 in
theorem ck293 : aOKgm 293 0 aC293 = true := by decide +kernel
set_option maxRecDepth 100000 in
theorem ck294 : aOKgm 294 0 aC294 = true := by decide +kernel
set_option maxRecDepth 100000 in
theorem ck295 : aOKgm 295 0 aC295 = true := by decide +kernel

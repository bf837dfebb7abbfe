set_option maxRecDepth 100000 in
theorem x_k228 : x_ok 228 = true := by decide +kernel
set_option maxRecDepth 100000 in
theorem x_w228 : x_wok 228 = true := by decide +kernel
set_option maxRecDepth 100000 in
theorem x_k229 : x_ok 229 = true := by decide +kernel
set_option maxRecDepth 100000 in
theorem x_w229 : x_wok 229 = true := by decide +kernel
set_option maxRecDepth 100000 in
theorem x_k230 : x_ok 230 = true := by decide +kernel
set_option maxRecDepth 100000 in
theorem x_w230 : x_wok 230 = true := by decide +kernel
set_option maxRecDepth 100000 in
theorem x_k231 : x_ok 231 = true := by decide +kernel
set_option maxRecDepth 100000 in
theorem x_w231 : x_wok 231 = true := by decide +kernel
set_option maxRecDepth 100000 in
theorem x_k232 : x_ok 232 = true := by decide +kernel
set_option maxRecDepth 100000 in
theorem x_w232 : x_wok 232 = true := by decide +kernel
set_option maxRecDepth 100000 in
theorem x_k233 : x_ok 233 = true := by decide +kernel
set_option maxRecDepth 100000 in
theorem x_w233 : x_wok 233 = true := by decide +kernel
set_option maxRecDepth 100000 in
theorem x_k234 : x_ok 234 = true := by decide +kernel
set_option maxRecDepth 100000 in
theorem x_w234 : x_wok 234 = true := by decide +kernel
set_option maxRecDepth 100000 in
theorem x_k235 : x_ok 235 = true := by decide +kernel
set_option maxRecDepth 100000 in
theorem x_w235 : x_wok 235 = true := by decide +kernel
set_option maxRecDepth 100000 in
theorem x_k236 : x_ok 236 = true := by decide +kernel
set_option maxRecDepth 100000 in
theorem x_w236 : x_wok 236 = true := by decide +kernel
set_option maxRecDepth 100000 in
theorem x_k237 : x_ok 237 = true := by decide +kernel
set_option maxRecDepth 100000 in
theorem x_w237 : x_wok 237 = true := by decide +kernel
set_option maxRecDepth 100000 in
theorem x_k238 : x_ok 238 = true := by decide +kernel
set_option maxRecDepth 100000 in
theorem x_w238 : x_wok 238 = true := by decide +kernel
set_option maxRecDepth 100000 in
theorem x_k239 : x_ok 239 = true := by decide +kernel
set_option maxRecDepth 100000 in
theorem x_w239 : x_wok 239 = true := by decide +kernel
set_option maxRecDepth 100000 in
theorem x_k240 : x_ok 240 = true := by decide +kernel
set_option maxRecDepth 100000 in
theorem x_w240 : x_wok 240 = true := by decide +kernel
set_option maxRecDepth 100000 in
theorem x_k241 : x_ok 241 = true := by decide +kernel
set_option maxRecDepth 100000 in
theorem x_w241 : x_wok 241 = true := by decide +kernel
set_option maxRecDepth 100000 in
theorem x_k242 : x_ok 242 = true := by decide +kernel
set_option maxRecDepth 100000 in
theorem x_w242 : x_wok 242 = true := by decide +kernel
set_option maxRecDepth 100000 in
theorem x_k243 : x_ok 243 = true := by decide +kernel
set_option maxRecDepth 100000 in
theorem x_w243 : x_wok 243 = true := by decide +kernel
set_option maxRecDepth 100000 in
theorem x_k244 : x_ok 244 = true := by decide +kernel
set_option maxRecDepth 100000 in
theorem x_w244 : x_wok 244 = true := by decide +kernel
set_option maxRecDepth 100000 in
theorem x_k245 : x_ok 245 = true := by decide +kernel
set_option maxRecDepth 100000 in
theorem x_w245 : x_wok 245 = true := by decide +kernel
set_option maxRecDepth 100000 in
theorem x_k246 : x_ok 246 = true := by decide +kernel
set_option maxRecDepth 100000 in
theorem x_w246 : x_wok 246 = true := by decide +kernel
set_option maxRecDepth 100000 in
theorem x_k247 : x_ok 247 = true := by decide +kernel
set_option maxRecDepth 100000 in
theorem x_w247 : x_wok 247 = true := by decide +kernel
set_option maxRecDepth 100000 in
theorem x_k248 : x_ok 248 = true := by decide +kernel
set_option maxRecDepth 100000 in
theorem x_w248 : x_wok 248 = true := by decide +kernel
set_option maxRecDepth 100000 in
theorem x_k249 : x_ok 249 = true := by decide +kernel
set_option maxRecDepth 100000 in
theorem x_w249 : x_wok 249 = true := by decide +kernel
set_option maxRecDepth 100000 in
theorem x_k250 : x_ok 250 = true := by decide +kernel
set_option maxRecDepth 100000 in
theorem x_w250 : x_wok 250 = true := by decide +kernel
set_option maxRecDepth 100000 in
theorem x_k251 : x_ok 251 = true := by decide +kernel
set_option maxRecDepth 100000 in
theorem x_w251 : x_wok 251 = true := by decide +kernel
set_option maxRecDepth 100000 in
theorem x_k252 : x_ok 252 = true := by decide +kernel
set_option maxRecDepth 100000 in
theorem x_w252 : x_wok 252 = true := by decide +kernel
set_option maxRecDepth 100000 in
theorem x_k253 : x_ok 253 = true := by decide +kernel
set_option maxRecDepth 100000 in
theorem x_w253 : x_wok 253 = true := by decide +kernel
set_option maxRecDepth 100000 in
theorem x_k254 : x_ok 254 = true := by decide +kernel
set_option maxRecDepth 100000 in
theorem x_w254 : x_wok 254 = true := by decide +kernel
set_option maxRecDepth 100000 in
theorem x_k255 : x_ok 255 = true := by decide +kernel
set_option maxRecDepth 100000 in
theorem x_w255 : x_wok 255 = true := by decide +kernel
set_option maxRecDepth 100000 in
theorem x_k256 : x_ok 256 = true := by decide +kernel
set_option maxRecDepth 100000 in
theorem x_w256 : x_wok 256 = true := by decide +kernel

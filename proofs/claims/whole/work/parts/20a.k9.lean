set_option maxRecDepth 100000 in
theorem x_k257 : x_ok 257 = true := by decide +kernel
set_option maxRecDepth 100000 in
theorem x_w257 : x_wok 257 = true := by decide +kernel
set_option maxRecDepth 100000 in
theorem x_k258 : x_ok 258 = true := by decide +kernel
set_option maxRecDepth 100000 in
theorem x_w258 : x_wok 258 = true := by decide +kernel
set_option maxRecDepth 100000 in
theorem x_k259 : x_ok 259 = true := by decide +kernel
set_option maxRecDepth 100000 in
theorem x_w259 : x_wok 259 = true := by decide +kernel
set_option maxRecDepth 100000 in
theorem x_k260 : x_ok 260 = true := by decide +kernel
set_option maxRecDepth 100000 in
theorem x_w260 : x_wok 260 = true := by decide +kernel
set_option maxRecDepth 100000 in
theorem x_k261 : x_ok 261 = true := by decide +kernel
set_option maxRecDepth 100000 in
theorem x_w261 : x_wok 261 = true := by decide +kernel
set_option maxRecDepth 100000 in
theorem x_k262 : x_ok 262 = true := by decide +kernel
set_option maxRecDepth 100000 in
theorem x_w262 : x_wok 262 = true := by decide +kernel
set_option maxRecDepth 100000 in
theorem x_k263 : x_ok 263 = true := by decide +kernel
set_option maxRecDepth 100000 in
theorem x_w263 : x_wok 263 = true := by decide +kernel
set_option maxRecDepth 100000 in
theorem x_k264 : x_ok 264 = true := by decide +kernel
set_option maxRecDepth 100000 in
theorem x_w264 : x_wok 264 = true := by decide +kernel
set_option maxRecDepth 100000 in
theorem x_k265 : x_ok 265 = true := by decide +kernel
set_option maxRecDepth 100000 in
theorem x_w265 : x_wok 265 = true := by decide +kernel
set_option maxRecDepth 100000 in
theorem x_k266 : x_ok 266 = true := by decide +kernel
set_option maxRecDepth 100000 in
theorem x_w266 : x_wok 266 = true := by decide +kernel
set_option maxRecDepth 100000 in
theorem x_k267 : x_ok 267 = true := by decide +kernel
set_option maxRecDepth 100000 in
theorem x_w267 : x_wok 267 = true := by decide +kernel
set_option maxRecDepth 100000 in
theorem x_k268 : x_ok 268 = true := by decide +kernel
set_option maxRecDepth 100000 in
theorem x_w268 : x_wok 268 = true := by decide +kernel
set_option maxRecDepth 100000 in
theorem x_k269 : x_ok 269 = true := by decide +kernel
set_option maxRecDepth 100000 in
theorem x_w269 : x_wok 269 = true := by decide +kernel
set_option maxRecDepth 100000 in
theorem x_k270 : x_ok 270 = true := by decide +kernel
set_option maxRecDepth 100000 in
theorem x_w270 : x_wok 270 = true := by decide +kernel
set_option maxRecDepth 100000 in
theorem x_k271 : x_ok 271 = true := by decide +kernel
set_option maxRecDepth 100000 in
theorem x_w271 : x_wok 271 = true := by decide +kernel
set_option maxRecDepth 100000 in
theorem x_k273 : x_ok 273 = true := by decide +kernel
set_option maxRecDepth 100000 in
theorem x_k274 : x_ok 274 = true := by decide +kernel
set_option maxRecDepth 100000 in
theorem x_k275 : x_ok 275 = true := by decide +kernel
set_option maxRecDepth 100000 in
theorem x_k276 : x_ok 276 = true := by decide +kernel
set_option maxRecDepth 100000 in
theorem x_k277 : x_ok 277 = true := by decide +kernel
set_option maxRecDepth 100000 in
theorem x_w277 : x_wok 277 = true := by decide +kernel
set_option maxRecDepth 100000 in
theorem x_k278 : x_ok 278 = true := by decide +kernel
set_option maxRecDepth 100000 in
theorem x_w278 : x_wok 278 = true := by decide +kernel
set_option maxRecDepth 100000 in
theorem x_k279 : x_ok 279 = true := by decide +kernel
set_option maxRecDepth 100000 in
theorem x_w279 : x_wok 279 = true := by decide +kernel
set_option maxRecDepth 100000 in
theorem x_k280 : x_ok 280 = true := by decide +kernel
set_option maxRecDepth 100000 in
theorem x_w280 : x_wok 280 = true := by decide +kernel
set_option maxRecDepth 100000 in
theorem x_k281 : x_ok 281 = true := by decide +kernel
set_option maxRecDepth 100000 in
theorem x_w281 : x_wok 281 = true := by decide +kernel
set_option maxRecDepth 100000 in
theorem x_k282 : x_ok 282 = true := by decide +kernel
set_option maxRecDepth 100000 in
theorem x_w282 : x_wok 282 = true := by decide +kernel
set_option maxRecDepth 100000 in
theorem x_k283 : x_ok 283 = true := by decide +kernel
set_option maxRecDepth 100000 in
theorem x_w283 : x_wok 283 = true := by decide +kernel
set_option maxRecDepth 100000 in
theorem x_k284 : x_ok 284 = true := by decide +kernel
set_option maxRecDepth 100000 in
theorem x_w284 : x_wok 284 = true := by decide +kernel
set_option maxRecDepth 100000 in
theorem x_k285 : x_ok 285 = true := by decide +kernel
set_option maxRecDepth 100000 in
theorem x_w285 : x_wok 285 = true := by decide +kernel

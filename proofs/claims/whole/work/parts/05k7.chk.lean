set_option maxRecDepth 100000 in
theorem x_k200 : x_ok 200 = true := by decide +kernel
set_option maxRecDepth 100000 in
theorem x_w200 : x_wok 200 = true := by decide +kernel
set_option maxRecDepth 100000 in
theorem x_k201 : x_ok 201 = true := by decide +kernel
set_option maxRecDepth 100000 in
theorem x_w201 : x_wok 201 = true := by decide +kernel
set_option maxRecDepth 100000 in
theorem x_k202 : x_ok 202 = true := by decide +kernel
set_option maxRecDepth 100000 in
theorem x_w202 : x_wok 202 = true := by decide +kernel
set_option maxRecDepth 100000 in
theorem x_k203 : x_ok 203 = true := by decide +kernel
set_option maxRecDepth 100000 in
theorem x_w203 : x_wok 203 = true := by decide +kernel
set_option maxRecDepth 100000 in
theorem x_k204 : x_ok 204 = true := by decide +kernel
set_option maxRecDepth 100000 in
theorem x_w204 : x_wok 204 = true := by decide +kernel
set_option maxRecDepth 100000 in
theorem x_k205 : x_ok 205 = true := by decide +kernel
set_option maxRecDepth 100000 in
theorem x_w205 : x_wok 205 = true := by decide +kernel
set_option maxRecDepth 100000 in
theorem x_k206 : x_ok 206 = true := by decide +kernel
set_option maxRecDepth 100000 in
theorem x_w206 : x_wok 206 = true := by decide +kernel
set_option maxRecDepth 100000 in
theorem x_k207 : x_ok 207 = true := by decide +kernel
set_option maxRecDepth 100000 in
theorem x_w207 : x_wok 207 = true := by decide +kernel
set_option maxRecDepth 100000 in
theorem x_k208 : x_ok 208 = true := by decide +kernel
set_option maxRecDepth 100000 in
theorem x_w208 : x_wok 208 = true := by decide +kernel
set_option maxRecDepth 100000 in
theorem x_k209 : x_ok 209 = true := by decide +kernel
set_option maxRecDepth 100000 in
theorem x_w209 : x_wok 209 = true := by decide +kernel
set_option maxRecDepth 100000 in
theorem x_k210 : x_ok 210 = true := by decide +kernel
set_option maxRecDepth 100000 in
theorem x_w210 : x_wok 210 = true := by decide +kernel
set_option maxRecDepth 100000 in
theorem x_k211 : x_ok 211 = true := by decide +kernel
set_option maxRecDepth 100000 in
theorem x_w211 : x_wok 211 = true := by decide +kernel
set_option maxRecDepth 100000 in
theorem x_k212 : x_ok 212 = true := by decide +kernel
set_option maxRecDepth 100000 in
theorem x_w212 : x_wok 212 = true := by decide +kernel
set_option maxRecDepth 100000 in
theorem x_k213 : x_ok 213 = true := by decide +kernel
set_option maxRecDepth 100000 in
theorem x_w213 : x_wok 213 = true := by decide +kernel
set_option maxRecDepth 100000 in
theorem x_k214 : x_ok 214 = true := by decide +kernel
set_option maxRecDepth 100000 in
theorem x_w214 : x_wok 214 = true := by decide +kernel
set_option maxRecDepth 100000 in
theorem x_k215 : x_ok 215 = true := by decide +kernel
set_option maxRecDepth 100000 in
theorem x_w215 : x_wok 215 = true := by decide +kernel
set_option maxRecDepth 100000 in
theorem x_k216 : x_ok 216 = true := by decide +kernel
set_option maxRecDepth 100000 in
theorem x_w216 : x_wok 216 = true := by decide +kernel
set_option maxRecDepth 100000 in
theorem x_k217 : x_ok 217 = true := by decide +kernel
set_option maxRecDepth 100000 in
theorem x_w217 : x_wok 217 = true := by decide +kernel
set_option maxRecDepth 100000 in
theorem x_k218 : x_ok 218 = true := by decide +kernel
set_option maxRecDepth 100000 in
theorem x_w218 : x_wok 218 = true := by decide +kernel
set_option maxRecDepth 100000 in
theorem x_k219 : x_ok 219 = true := by decide +kernel
set_option maxRecDepth 100000 in
theorem x_w219 : x_wok 219 = true := by decide +kernel
set_option maxRecDepth 100000 in
theorem x_k220 : x_ok 220 = true := by decide +kernel
set_option maxRecDepth 100000 in
theorem x_w220 : x_wok 220 = true := by decide +kernel
set_option maxRecDepth 100000 in
theorem x_k221 : x_ok 221 = true := by decide +kernel
set_option maxRecDepth 100000 in
theorem x_w221 : x_wok 221 = true := by decide +kernel
set_option maxRecDepth 100000 in
theorem x_k222 : x_ok 222 = true := by decide +kernel
set_option maxRecDepth 100000 in
theorem x_w222 : x_wok 222 = true := by decide +kernel
set_option maxRecDepth 100000 in
theorem x_k223 : x_ok 223 = true := by decide +kernel
set_option maxRecDepth 100000 in
theorem x_w223 : x_wok 223 = true := by decide +kernel
set_option maxRecDepth 100000 in
theorem x_k224 : x_ok 224 = true := by decide +kernel
set_option maxRecDepth 100000 in
theorem x_w224 : x_wok 224 = true := by decide +kernel
set_option maxRecDepth 100000 in
theorem x_k225 : x_ok 225 = true := by decide +kernel
set_option maxRecDepth 100000 in
theorem x_w225 : x_wok 225 = true := by decide +kernel
set_option maxRecDepth 100000 in
theorem x_k226 : x_ok 226 = true := by decide +kernel
set_option maxRecDepth 100000 in
theorem x_w226 : x_wok 226 = true := by decide +kernel
set_option maxRecDepth 100000 in
theorem x_k227 : x_ok 227 = true := by decide +kernel
set_option maxRecDepth 100000 in
theorem x_w227 : x_wok 227 = true := by decide +kernel

set_option maxRecDepth 100000 in
theorem x_k85 : x_ok 85 = true := by decide +kernel
set_option maxRecDepth 100000 in
theorem x_w85 : x_wok 85 = true := by decide +kernel
set_option maxRecDepth 100000 in
theorem x_k86 : x_ok 86 = true := by decide +kernel
set_option maxRecDepth 100000 in
theorem x_w86 : x_wok 86 = true := by decide +kernel
set_option maxRecDepth 100000 in
theorem x_k87 : x_ok 87 = true := by decide +kernel
set_option maxRecDepth 100000 in
theorem x_w87 : x_wok 87 = true := by decide +kernel
set_option maxRecDepth 100000 in
theorem x_k88 : x_ok 88 = true := by decide +kernel
set_option maxRecDepth 100000 in
theorem x_w88 : x_wok 88 = true := by decide +kernel
set_option maxRecDepth 100000 in
theorem x_k89 : x_ok 89 = true := by decide +kernel
set_option maxRecDepth 100000 in
theorem x_w89 : x_wok 89 = true := by decide +kernel
set_option maxRecDepth 100000 in
theorem x_k90 : x_ok 90 = true := by decide +kernel
set_option maxRecDepth 100000 in
theorem x_w90 : x_wok 90 = true := by decide +kernel
set_option maxRecDepth 100000 in
theorem x_k91 : x_ok 91 = true := by decide +kernel
set_option maxRecDepth 100000 in
theorem x_w91 : x_wok 91 = true := by decide +kernel
set_option maxRecDepth 100000 in
theorem x_k92 : x_ok 92 = true := by decide +kernel
set_option maxRecDepth 100000 in
theorem x_w92 : x_wok 92 = true := by decide +kernel
set_option maxRecDepth 100000 in
theorem x_k93 : x_ok 93 = true := by decide +kernel
set_option maxRecDepth 100000 in
theorem x_w93 : x_wok 93 = true := by decide +kernel
set_option maxRecDepth 100000 in
theorem x_k94 : x_ok 94 = true := by decide +kernel
set_option maxRecDepth 100000 in
theorem x_w94 : x_wok 94 = true := by decide +kernel
set_option maxRecDepth 100000 in
theorem x_k95 : x_ok 95 = true := by decide +kernel
set_option maxRecDepth 100000 in
theorem x_w95 : x_wok 95 = true := by decide +kernel
set_option maxRecDepth 100000 in
theorem x_k96 : x_ok 96 = true := by decide +kernel
set_option maxRecDepth 100000 in
theorem x_w96 : x_wok 96 = true := by decide +kernel
set_option maxRecDepth 100000 in
theorem x_k97 : x_ok 97 = true := by decide +kernel
set_option maxRecDepth 100000 in
theorem x_w97 : x_wok 97 = true := by decide +kernel
set_option maxRecDepth 100000 in
theorem x_k98 : x_ok 98 = true := by decide +kernel
set_option maxRecDepth 100000 in
theorem x_w98 : x_wok 98 = true := by decide +kernel
set_option maxRecDepth 100000 in
theorem x_k99 : x_ok 99 = true := by decide +kernel
set_option maxRecDepth 100000 in
theorem x_w99 : x_wok 99 = true := by decide +kernel
set_option maxRecDepth 100000 in
theorem x_k100 : x_ok 100 = true := by decide +kernel
set_option maxRecDepth 100000 in
theorem x_w100 : x_wok 100 = true := by decide +kernel
set_option maxRecDepth 100000 in
theorem x_k101 : x_ok 101 = true := by decide +kernel
set_option maxRecDepth 100000 in
theorem x_w101 : x_wok 101 = true := by decide +kernel
set_option maxRecDepth 100000 in
theorem x_k102 : x_ok 102 = true := by decide +kernel
set_option maxRecDepth 100000 in
theorem x_w102 : x_wok 102 = true := by decide +kernel
set_option maxRecDepth 100000 in
theorem x_k103 : x_ok 103 = true := by decide +kernel
set_option maxRecDepth 100000 in
theorem x_w103 : x_wok 103 = true := by decide +kernel
set_option maxRecDepth 100000 in
theorem x_k104 : x_ok 104 = true := by decide +kernel
set_option maxRecDepth 100000 in
theorem x_w104 : x_wok 104 = true := by decide +kernel
set_option maxRecDepth 100000 in
theorem x_k105 : x_ok 105 = true := by decide +kernel
set_option maxRecDepth 100000 in
theorem x_w105 : x_wok 105 = true := by decide +kernel
set_option maxRecDepth 100000 in
theorem x_k106 : x_ok 106 = true := by decide +kernel
set_option maxRecDepth 100000 in
theorem x_w106 : x_wok 106 = true := by decide +kernel
set_option maxRecDepth 100000 in
theorem x_k107 : x_ok 107 = true := by decide +kernel
set_option maxRecDepth 100000 in
theorem x_w107 : x_wok 107 = true := by decide +kernel
set_option maxRecDepth 100000 in
theorem x_k108 : x_ok 108 = true := by decide +kernel
set_option maxRecDepth 100000 in
theorem x_w108 : x_wok 108 = true := by decide +kernel
set_option maxRecDepth 100000 in
theorem x_k109 : x_ok 109 = true := by decide +kernel
set_option maxRecDepth 100000 in
theorem x_w109 : x_wok 109 = true := by decide +kernel
set_option maxRecDepth 100000 in
theorem x_k110 : x_ok 110 = true := by decide +kernel
set_option maxRecDepth 100000 in
theorem x_w110 : x_wok 110 = true := by decide +kernel
set_option maxRecDepth 100000 in
theorem x_k111 : x_ok 111 = true := by decide +kernel
set_option maxRecDepth 100000 in
theorem x_w111 : x_wok 111 = true := by decide +kernel
set_option maxRecDepth 100000 in
theorem x_k112 : x_ok 112 = true := by decide +kernel
set_option maxRecDepth 100000 in
theorem x_w112 : x_wok 112 = true := by decide +kernel
set_option maxRecDepth 100000 in
theorem x_k113 : x_ok 113 = true := by decide +kernel
set_option maxRecDepth 100000 in
theorem x_w113 : x_wok 113 = true := by decide +kernel

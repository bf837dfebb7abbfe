set_option maxRecDepth 100000 in
theorem x_k114 : x_ok 114 = true := by decide +kernel
set_option maxRecDepth 100000 in
theorem x_w114 : x_wok 114 = true := by decide +kernel
set_option maxRecDepth 100000 in
theorem x_k115 : x_ok 115 = true := by decide +kernel
set_option maxRecDepth 100000 in
theorem x_w115 : x_wok 115 = true := by decide +kernel
set_option maxRecDepth 100000 in
theorem x_k116 : x_ok 116 = true := by decide +kernel
set_option maxRecDepth 100000 in
theorem x_w116 : x_wok 116 = true := by decide +kernel
set_option maxRecDepth 100000 in
theorem x_k117 : x_ok 117 = true := by decide +kernel
set_option maxRecDepth 100000 in
theorem x_w117 : x_wok 117 = true := by decide +kernel
set_option maxRecDepth 100000 in
theorem x_k118 : x_ok 118 = true := by decide +kernel
set_option maxRecDepth 100000 in
theorem x_w118 : x_wok 118 = true := by decide +kernel
set_option maxRecDepth 100000 in
theorem x_k119 : x_ok 119 = true := by decide +kernel
set_option maxRecDepth 100000 in
theorem x_w119 : x_wok 119 = true := by decide +kernel
set_option maxRecDepth 100000 in
theorem x_k120 : x_ok 120 = true := by decide +kernel
set_option maxRecDepth 100000 in
theorem x_w120 : x_wok 120 = true := by decide +kernel
set_option maxRecDepth 100000 in
theorem x_k121 : x_ok 121 = true := by decide +kernel
set_option maxRecDepth 100000 in
theorem x_w121 : x_wok 121 = true := by decide +kernel
set_option maxRecDepth 100000 in
theorem x_k122 : x_ok 122 = true := by decide +kernel
set_option maxRecDepth 100000 in
theorem x_w122 : x_wok 122 = true := by decide +kernel
set_option maxRecDepth 100000 in
theorem x_k123 : x_ok 123 = true := by decide +kernel
set_option maxRecDepth 100000 in
theorem x_w123 : x_wok 123 = true := by decide +kernel
set_option maxRecDepth 100000 in
theorem x_k124 : x_ok 124 = true := by decide +kernel
set_option maxRecDepth 100000 in
theorem x_w124 : x_wok 124 = true := by decide +kernel
set_option maxRecDepth 100000 in
theorem x_k125 : x_ok 125 = true := by decide +kernel
set_option maxRecDepth 100000 in
theorem x_w125 : x_wok 125 = true := by decide +kernel
set_option maxRecDepth 100000 in
theorem x_k126 : x_ok 126 = true := by decide +kernel
set_option maxRecDepth 100000 in
theorem x_w126 : x_wok 126 = true := by decide +kernel
set_option maxRecDepth 100000 in
theorem x_k127 : x_ok 127 = true := by decide +kernel
set_option maxRecDepth 100000 in
theorem x_w127 : x_wok 127 = true := by decide +kernel
set_option maxRecDepth 100000 in
theorem x_k128 : x_ok 128 = true := by decide +kernel
set_option maxRecDepth 100000 in
theorem x_w128 : x_wok 128 = true := by decide +kernel
set_option maxRecDepth 100000 in
theorem x_k129 : x_ok 129 = true := by decide +kernel
set_option maxRecDepth 100000 in
theorem x_w129 : x_wok 129 = true := by decide +kernel
set_option maxRecDepth 100000 in
theorem x_k130 : x_ok 130 = true := by decide +kernel
set_option maxRecDepth 100000 in
theorem x_w130 : x_wok 130 = true := by decide +kernel
set_option maxRecDepth 100000 in
theorem x_k131 : x_ok 131 = true := by decide +kernel
set_option maxRecDepth 100000 in
theorem x_w131 : x_wok 131 = true := by decide +kernel
set_option maxRecDepth 100000 in
theorem x_k132 : x_ok 132 = true := by decide +kernel
set_option maxRecDepth 100000 in
theorem x_w132 : x_wok 132 = true := by decide +kernel
set_option maxRecDepth 100000 in
theorem x_k133 : x_ok 133 = true := by decide +kernel
set_option maxRecDepth 100000 in
theorem x_w133 : x_wok 133 = true := by decide +kernel
set_option maxRecDepth 100000 in
theorem x_k134 : x_ok 134 = true := by decide +kernel
set_option maxRecDepth 100000 in
theorem x_w134 : x_wok 134 = true := by decide +kernel
set_option maxRecDepth 100000 in
theorem x_k135 : x_ok 135 = true := by decide +kernel
set_option maxRecDepth 100000 in
theorem x_w135 : x_wok 135 = true := by decide +kernel
set_option maxRecDepth 100000 in
theorem x_k136 : x_ok 136 = true := by decide +kernel
set_option maxRecDepth 100000 in
theorem x_w136 : x_wok 136 = true := by decide +kernel
set_option maxRecDepth 100000 in
theorem x_k137 : x_ok 137 = true := by decide +kernel
set_option maxRecDepth 100000 in
theorem x_w137 : x_wok 137 = true := by decide +kernel
set_option maxRecDepth 100000 in
theorem x_k138 : x_ok 138 = true := by decide +kernel
set_option maxRecDepth 100000 in
theorem x_w138 : x_wok 138 = true := by decide +kernel
set_option maxRecDepth 100000 in
theorem x_k139 : x_ok 139 = true := by decide +kernel
set_option maxRecDepth 100000 in
theorem x_w139 : x_wok 139 = true := by decide +kernel
set_option maxRecDepth 100000 in
theorem x_k140 : x_ok 140 = true := by decide +kernel
set_option maxRecDepth 100000 in
theorem x_w140 : x_wok 140 = true := by decide +kernel
set_option maxRecDepth 100000 in
theorem x_k141 : x_ok 141 = true := by decide +kernel
set_option maxRecDepth 100000 in
theorem x_w141 : x_wok 141 = true := by decide +kernel
set_option maxRecDepth 100000 in
theorem x_k142 : x_ok 142 = true := by decide +kernel
set_option maxRecDepth 100000 in
theorem x_w142 : x_wok 142 = true := by decide +kernel

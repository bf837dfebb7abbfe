set_option maxRecDepth 100000 in
theorem x_k143 : x_ok 143 = true := by decide +kernel
set_option maxRecDepth 100000 in
theorem x_w143 : x_wok 143 = true := by decide +kernel
set_option maxRecDepth 100000 in
theorem x_k144 : x_ok 144 = true := by decide +kernel
set_option maxRecDepth 100000 in
theorem x_w144 : x_wok 144 = true := by decide +kernel
set_option maxRecDepth 100000 in
theorem x_k145 : x_ok 145 = true := by decide +kernel
set_option maxRecDepth 100000 in
theorem x_w145 : x_wok 145 = true := by decide +kernel
set_option maxRecDepth 100000 in
theorem x_k146 : x_ok 146 = true := by decide +kernel
set_option maxRecDepth 100000 in
theorem x_w146 : x_wok 146 = true := by decide +kernel
set_option maxRecDepth 100000 in
theorem x_k147 : x_ok 147 = true := by decide +kernel
set_option maxRecDepth 100000 in
theorem x_w147 : x_wok 147 = true := by decide +kernel
set_option maxRecDepth 100000 in
theorem x_k148 : x_ok 148 = true := by decide +kernel
set_option maxRecDepth 100000 in
theorem x_w148 : x_wok 148 = true := by decide +kernel
set_option maxRecDepth 100000 in
theorem x_k149 : x_ok 149 = true := by decide +kernel
set_option maxRecDepth 100000 in
theorem x_w149 : x_wok 149 = true := by decide +kernel
set_option maxRecDepth 100000 in
theorem x_k150 : x_ok 150 = true := by decide +kernel
set_option maxRecDepth 100000 in
theorem x_w150 : x_wok 150 = true := by decide +kernel
set_option maxRecDepth 100000 in
theorem x_k151 : x_ok 151 = true := by decide +kernel
set_option maxRecDepth 100000 in
theorem x_w151 : x_wok 151 = true := by decide +kernel
set_option maxRecDepth 100000 in
theorem x_k152 : x_ok 152 = true := by decide +kernel
set_option maxRecDepth 100000 in
theorem x_w152 : x_wok 152 = true := by decide +kernel
set_option maxRecDepth 100000 in
theorem x_k153 : x_ok 153 = true := by decide +kernel
set_option maxRecDepth 100000 in
theorem x_w153 : x_wok 153 = true := by decide +kernel
set_option maxRecDepth 100000 in
theorem x_k154 : x_ok 154 = true := by decide +kernel
set_option maxRecDepth 100000 in
theorem x_w154 : x_wok 154 = true := by decide +kernel
set_option maxRecDepth 100000 in
theorem x_k155 : x_ok 155 = true := by decide +kernel
set_option maxRecDepth 100000 in
theorem x_w155 : x_wok 155 = true := by decide +kernel
set_option maxRecDepth 100000 in
theorem x_k156 : x_ok 156 = true := by decide +kernel
set_option maxRecDepth 100000 in
theorem x_w156 : x_wok 156 = true := by decide +kernel
set_option maxRecDepth 100000 in
theorem x_k157 : x_ok 157 = true := by decide +kernel
set_option maxRecDepth 100000 in
theorem x_w157 : x_wok 157 = true := by decide +kernel
set_option maxRecDepth 100000 in
theorem x_k158 : x_ok 158 = true := by decide +kernel
set_option maxRecDepth 100000 in
theorem x_w158 : x_wok 158 = true := by decide +kernel
set_option maxRecDepth 100000 in
theorem x_k159 : x_ok 159 = true := by decide +kernel
set_option maxRecDepth 100000 in
theorem x_w159 : x_wok 159 = true := by decide +kernel
set_option maxRecDepth 100000 in
theorem x_k160 : x_ok 160 = true := by decide +kernel
set_option maxRecDepth 100000 in
theorem x_w160 : x_wok 160 = true := by decide +kernel
set_option maxRecDepth 100000 in
theorem x_k161 : x_ok 161 = true := by decide +kernel
set_option maxRecDepth 100000 in
theorem x_w161 : x_wok 161 = true := by decide +kernel
set_option maxRecDepth 100000 in
theorem x_k162 : x_ok 162 = true := by decide +kernel
set_option maxRecDepth 100000 in
theorem x_w162 : x_wok 162 = true := by decide +kernel
set_option maxRecDepth 100000 in
theorem x_k163 : x_ok 163 = true := by decide +kernel
set_option maxRecDepth 100000 in
theorem x_w163 : x_wok 163 = true := by decide +kernel
set_option maxRecDepth 100000 in
theorem x_k164 : x_ok 164 = true := by decide +kernel
set_option maxRecDepth 100000 in
theorem x_w164 : x_wok 164 = true := by decide +kernel
set_option maxRecDepth 100000 in
theorem x_k165 : x_ok 165 = true := by decide +kernel
set_option maxRecDepth 100000 in
theorem x_w165 : x_wok 165 = true := by decide +kernel
set_option maxRecDepth 100000 in
theorem x_k166 : x_ok 166 = true := by decide +kernel
set_option maxRecDepth 100000 in
theorem x_w166 : x_wok 166 = true := by decide +kernel
set_option maxRecDepth 100000 in
theorem x_k167 : x_ok 167 = true := by decide +kernel
set_option maxRecDepth 100000 in
theorem x_w167 : x_wok 167 = true := by decide +kernel
set_option maxRecDepth 100000 in
theorem x_k168 : x_ok 168 = true := by decide +kernel
set_option maxRecDepth 100000 in
theorem x_w168 : x_wok 168 = true := by decide +kernel
set_option maxRecDepth 100000 in
theorem x_k169 : x_ok 169 = true := by decide +kernel
set_option maxRecDepth 100000 in
theorem x_w169 : x_wok 169 = true := by decide +kernel
set_option maxRecDepth 100000 in
theorem x_k170 : x_ok 170 = true := by decide +kernel
set_option maxRecDepth 100000 in
theorem x_w170 : x_wok 170 = true := by decide +kernel

set_option maxRecDepth 100000 in
theorem x_k171 : x_ok 171 = true := by decide +kernel
set_option maxRecDepth 100000 in
theorem x_w171 : x_wok 171 = true := by decide +kernel
set_option maxRecDepth 100000 in
theorem x_k172 : x_ok 172 = true := by decide +kernel
set_option maxRecDepth 100000 in
theorem x_w172 : x_wok 172 = true := by decide +kernel
set_option maxRecDepth 100000 in
theorem x_k173 : x_ok 173 = true := by decide +kernel
set_option maxRecDepth 100000 in
theorem x_w173 : x_wok 173 = true := by decide +kernel
set_option maxRecDepth 100000 in
theorem x_k174 : x_ok 174 = true := by decide +kernel
set_option maxRecDepth 100000 in
theorem x_w174 : x_wok 174 = true := by decide +kernel
set_option maxRecDepth 100000 in
theorem x_k175 : x_ok 175 = true := by decide +kernel
set_option maxRecDepth 100000 in
theorem x_w175 : x_wok 175 = true := by decide +kernel
set_option maxRecDepth 100000 in
theorem x_k176 : x_ok 176 = true := by decide +kernel
set_option maxRecDepth 100000 in
theorem x_w176 : x_wok 176 = true := by decide +kernel
set_option maxRecDepth 100000 in
theorem x_k177 : x_ok 177 = true := by decide +kernel
set_option maxRecDepth 100000 in
theorem x_w177 : x_wok 177 = true := by decide +kernel
set_option maxRecDepth 100000 in
theorem x_k178 : x_ok 178 = true := by decide +kernel
set_option maxRecDepth 100000 in
theorem x_w178 : x_wok 178 = true := by decide +kernel
set_option maxRecDepth 100000 in
theorem x_k179 : x_ok 179 = true := by decide +kernel
set_option maxRecDepth 100000 in
theorem x_w179 : x_wok 179 = true := by decide +kernel
set_option maxRecDepth 100000 in
theorem x_k180 : x_ok 180 = true := by decide +kernel
set_option maxRecDepth 100000 in
theorem x_w180 : x_wok 180 = true := by decide +kernel
set_option maxRecDepth 100000 in
theorem x_k181 : x_ok 181 = true := by decide +kernel
set_option maxRecDepth 100000 in
theorem x_w181 : x_wok 181 = true := by decide +kernel
set_option maxRecDepth 100000 in
theorem x_k182 : x_ok 182 = true := by decide +kernel
set_option maxRecDepth 100000 in
theorem x_w182 : x_wok 182 = true := by decide +kernel
set_option maxRecDepth 100000 in
theorem x_k183 : x_ok 183 = true := by decide +kernel
set_option maxRecDepth 100000 in
theorem x_w183 : x_wok 183 = true := by decide +kernel
set_option maxRecDepth 100000 in
theorem x_k184 : x_ok 184 = true := by decide +kernel
set_option maxRecDepth 100000 in
theorem x_w184 : x_wok 184 = true := by decide +kernel
set_option maxRecDepth 100000 in
theorem x_k185 : x_ok 185 = true := by decide +kernel
set_option maxRecDepth 100000 in
theorem x_w185 : x_wok 185 = true := by decide +kernel
set_option maxRecDepth 100000 in
theorem x_k186 : x_ok 186 = true := by decide +kernel
set_option maxRecDepth 100000 in
theorem x_w186 : x_wok 186 = true := by decide +kernel
set_option maxRecDepth 100000 in
theorem x_k187 : x_ok 187 = true := by decide +kernel
set_option maxRecDepth 100000 in
theorem x_w187 : x_wok 187 = true := by decide +kernel
set_option maxRecDepth 100000 in
theorem x_k188 : x_ok 188 = true := by decide +kernel
set_option maxRecDepth 100000 in
theorem x_w188 : x_wok 188 = true := by decide +kernel
set_option maxRecDepth 100000 in
theorem x_k189 : x_ok 189 = true := by decide +kernel
set_option maxRecDepth 100000 in
theorem x_w189 : x_wok 189 = true := by decide +kernel
set_option maxRecDepth 100000 in
theorem x_k190 : x_ok 190 = true := by decide +kernel
set_option maxRecDepth 100000 in
theorem x_w190 : x_wok 190 = true := by decide +kernel
set_option maxRecDepth 100000 in
theorem x_k191 : x_ok 191 = true := by decide +kernel
set_option maxRecDepth 100000 in
theorem x_w191 : x_wok 191 = true := by decide +kernel
set_option maxRecDepth 100000 in
theorem x_k192 : x_ok 192 = true := by decide +kernel
set_option maxRecDepth 100000 in
theorem x_w192 : x_wok 192 = true := by decide +kernel
set_option maxRecDepth 100000 in
theorem x_k193 : x_ok 193 = true := by decide +kernel
set_option maxRecDepth 100000 in
theorem x_w193 : x_wok 193 = true := by decide +kernel
set_option maxRecDepth 100000 in
theorem x_k194 : x_ok 194 = true := by decide +kernel
set_option maxRecDepth 100000 in
theorem x_w194 : x_wok 194 = true := by decide +kernel
set_option maxRecDepth 100000 in
theorem x_k195 : x_ok 195 = true := by decide +kernel
set_option maxRecDepth 100000 in
theorem x_w195 : x_wok 195 = true := by decide +kernel
set_option maxRecDepth 100000 in
theorem x_k196 : x_ok 196 = true := by decide +kernel
set_option maxRecDepth 100000 in
theorem x_w196 : x_wok 196 = true := by decide +kernel
set_option maxRecDepth 100000 in
theorem x_k197 : x_ok 197 = true := by decide +kernel
set_option maxRecDepth 100000 in
theorem x_w197 : x_wok 197 = true := by decide +kernel
set_option maxRecDepth 100000 in
theorem x_k198 : x_ok 198 = true := by decide +kernel
set_option maxRecDepth 100000 in
theorem x_w198 : x_wok 198 = true := by decide +kernel
set_option maxRecDepth 100000 in
theorem x_k199 : x_ok 199 = true := by decide +kernel
set_option maxRecDepth 100000 in
theorem x_w199 : x_wok 199 = true := by decide +kernel

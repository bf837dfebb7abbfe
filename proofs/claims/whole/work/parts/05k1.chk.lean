set_option maxRecDepth 100000 in
theorem x_k28 : x_ok 28 = true := by decide +kernel
set_option maxRecDepth 100000 in
theorem x_w28 : x_wok 28 = true := by decide +kernel
set_option maxRecDepth 100000 in
theorem x_k29 : x_ok 29 = true := by decide +kernel
set_option maxRecDepth 100000 in
theorem x_w29 : x_wok 29 = true := by decide +kernel
set_option maxRecDepth 100000 in
theorem x_k30 : x_ok 30 = true := by decide +kernel
set_option maxRecDepth 100000 in
theorem x_w30 : x_wok 30 = true := by decide +kernel
set_option maxRecDepth 100000 in
theorem x_k31 : x_ok 31 = true := by decide +kernel
set_option maxRecDepth 100000 in
theorem x_w31 : x_wok 31 = true := by decide +kernel
set_option maxRecDepth 100000 in
theorem x_k32 : x_ok 32 = true := by decide +kernel
set_option maxRecDepth 100000 in
theorem x_w32 : x_wok 32 = true := by decide +kernel
set_option maxRecDepth 100000 in
theorem x_k33 : x_ok 33 = true := by decide +kernel
set_option maxRecDepth 100000 in
theorem x_w33 : x_wok 33 = true := by decide +kernel
set_option maxRecDepth 100000 in
theorem x_k34 : x_ok 34 = true := by decide +kernel
set_option maxRecDepth 100000 in
theorem x_w34 : x_wok 34 = true := by decide +kernel
set_option maxRecDepth 100000 in
theorem x_k35 : x_ok 35 = true := by decide +kernel
set_option maxRecDepth 100000 in
theorem x_w35 : x_wok 35 = true := by decide +kernel
set_option maxRecDepth 100000 in
theorem x_k36 : x_ok 36 = true := by decide +kernel
set_option maxRecDepth 100000 in
theorem x_w36 : x_wok 36 = true := by decide +kernel
set_option maxRecDepth 100000 in
theorem x_k37 : x_ok 37 = true := by decide +kernel
set_option maxRecDepth 100000 in
theorem x_w37 : x_wok 37 = true := by decide +kernel
set_option maxRecDepth 100000 in
theorem x_k38 : x_ok 38 = true := by decide +kernel
set_option maxRecDepth 100000 in
theorem x_w38 : x_wok 38 = true := by decide +kernel
set_option maxRecDepth 100000 in
theorem x_k39 : x_ok 39 = true := by decide +kernel
set_option maxRecDepth 100000 in
theorem x_w39 : x_wok 39 = true := by decide +kernel
set_option maxRecDepth 100000 in
theorem x_k40 : x_ok 40 = true := by decide +kernel
set_option maxRecDepth 100000 in
theorem x_w40 : x_wok 40 = true := by decide +kernel
set_option maxRecDepth 100000 in
theorem x_k41 : x_ok 41 = true := by decide +kernel
set_option maxRecDepth 100000 in
theorem x_w41 : x_wok 41 = true := by decide +kernel
set_option maxRecDepth 100000 in
theorem x_k42 : x_ok 42 = true := by decide +kernel
set_option maxRecDepth 100000 in
theorem x_w42 : x_wok 42 = true := by decide +kernel
set_option maxRecDepth 100000 in
theorem x_k43 : x_ok 43 = true := by decide +kernel
set_option maxRecDepth 100000 in
theorem x_w43 : x_wok 43 = true := by decide +kernel
set_option maxRecDepth 100000 in
theorem x_k44 : x_ok 44 = true := by decide +kernel
set_option maxRecDepth 100000 in
theorem x_w44 : x_wok 44 = true := by decide +kernel
set_option maxRecDepth 100000 in
theorem x_k45 : x_ok 45 = true := by decide +kernel
set_option maxRecDepth 100000 in
theorem x_w45 : x_wok 45 = true := by decide +kernel
set_option maxRecDepth 100000 in
theorem x_k46 : x_ok 46 = true := by decide +kernel
set_option maxRecDepth 100000 in
theorem x_w46 : x_wok 46 = true := by decide +kernel
set_option maxRecDepth 100000 in
theorem x_k47 : x_ok 47 = true := by decide +kernel
set_option maxRecDepth 100000 in
theorem x_w47 : x_wok 47 = true := by decide +kernel
set_option maxRecDepth 100000 in
theorem x_k48 : x_ok 48 = true := by decide +kernel
set_option maxRecDepth 100000 in
theorem x_w48 : x_wok 48 = true := by decide +kernel
set_option maxRecDepth 100000 in
theorem x_k49 : x_ok 49 = true := by decide +kernel
set_option maxRecDepth 100000 in
theorem x_w49 : x_wok 49 = true := by decide +kernel
set_option maxRecDepth 100000 in
theorem x_k50 : x_ok 50 = true := by decide +kernel
set_option maxRecDepth 100000 in
theorem x_w50 : x_wok 50 = true := by decide +kernel
set_option maxRecDepth 100000 in
theorem x_k51 : x_ok 51 = true := by decide +kernel
set_option maxRecDepth 100000 in
theorem x_w51 : x_wok 51 = true := by decide +kernel
set_option maxRecDepth 100000 in
theorem x_k52 : x_ok 52 = true := by decide +kernel
set_option maxRecDepth 100000 in
theorem x_w52 : x_wok 52 = true := by decide +kernel
set_option maxRecDepth 100000 in
theorem x_k53 : x_ok 53 = true := by decide +kernel
set_option maxRecDepth 100000 in
theorem x_w53 : x_wok 53 = true := by decide +kernel
set_option maxRecDepth 100000 in
theorem x_k54 : x_ok 54 = true := by decide +kernel
set_option maxRecDepth 100000 in
theorem x_w54 : x_wok 54 = true := by decide +kernel
set_option maxRecDepth 100000 in
theorem x_k55 : x_ok 55 = true := by decide +kernel
set_option maxRecDepth 100000 in
theorem x_w55 : x_wok 55 = true := by decide +kernel
set_option maxRecDepth 100000 in
theorem x_k56 : x_ok 56 = true := by decide +kernel
set_option maxRecDepth 100000 in
theorem x_w56 : x_wok 56 = true := by decide +kernel

set_option maxRecDepth 100000 in
theorem x_k57 : x_ok 57 = true := by decide +kernel
set_option maxRecDepth 100000 in
theorem x_w57 : x_wok 57 = true := by decide +kernel
set_option maxRecDepth 100000 in
theorem x_k58 : x_ok 58 = true := by decide +kernel
set_option maxRecDepth 100000 in
theorem x_w58 : x_wok 58 = true := by decide +kernel
set_option maxRecDepth 100000 in
theorem x_k59 : x_ok 59 = true := by decide +kernel
set_option maxRecDepth 100000 in
theorem x_w59 : x_wok 59 = true := by decide +kernel
set_option maxRecDepth 100000 in
theorem x_k60 : x_ok 60 = true := by decide +kernel
set_option maxRecDepth 100000 in
theorem x_w60 : x_wok 60 = true := by decide +kernel
set_option maxRecDepth 100000 in
theorem x_k61 : x_ok 61 = true := by decide +kernel
set_option maxRecDepth 100000 in
theorem x_w61 : x_wok 61 = true := by decide +kernel
set_option maxRecDepth 100000 in
theorem x_k62 : x_ok 62 = true := by decide +kernel
set_option maxRecDepth 100000 in
theorem x_w62 : x_wok 62 = true := by decide +kernel
set_option maxRecDepth 100000 in
theorem x_k63 : x_ok 63 = true := by decide +kernel
set_option maxRecDepth 100000 in
theorem x_w63 : x_wok 63 = true := by decide +kernel
set_option maxRecDepth 100000 in
theorem x_k64 : x_ok 64 = true := by decide +kernel
set_option maxRecDepth 100000 in
theorem x_w64 : x_wok 64 = true := by decide +kernel
set_option maxRecDepth 100000 in
theorem x_k65 : x_ok 65 = true := by decide +kernel
set_option maxRecDepth 100000 in
theorem x_w65 : x_wok 65 = true := by decide +kernel
set_option maxRecDepth 100000 in
theorem x_k66 : x_ok 66 = true := by decide +kernel
set_option maxRecDepth 100000 in
theorem x_w66 : x_wok 66 = true := by decide +kernel
set_option maxRecDepth 100000 in
theorem x_k67 : x_ok 67 = true := by decide +kernel
set_option maxRecDepth 100000 in
theorem x_w67 : x_wok 67 = true := by decide +kernel
set_option maxRecDepth 100000 in
theorem x_k68 : x_ok 68 = true := by decide +kernel
set_option maxRecDepth 100000 in
theorem x_w68 : x_wok 68 = true := by decide +kernel
set_option maxRecDepth 100000 in
theorem x_k69 : x_ok 69 = true := by decide +kernel
set_option maxRecDepth 100000 in
theorem x_w69 : x_wok 69 = true := by decide +kernel
set_option maxRecDepth 100000 in
theorem x_k70 : x_ok 70 = true := by decide +kernel
set_option maxRecDepth 100000 in
theorem x_w70 : x_wok 70 = true := by decide +kernel
set_option maxRecDepth 100000 in
theorem x_k71 : x_ok 71 = true := by decide +kernel
set_option maxRecDepth 100000 in
theorem x_w71 : x_wok 71 = true := by decide +kernel
set_option maxRecDepth 100000 in
theorem x_k72 : x_ok 72 = true := by decide +kernel
set_option maxRecDepth 100000 in
theorem x_w72 : x_wok 72 = true := by decide +kernel
set_option maxRecDepth 100000 in
theorem x_k73 : x_ok 73 = true := by decide +kernel
set_option maxRecDepth 100000 in
theorem x_w73 : x_wok 73 = true := by decide +kernel
set_option maxRecDepth 100000 in
theorem x_k74 : x_ok 74 = true := by decide +kernel
set_option maxRecDepth 100000 in
theorem x_w74 : x_wok 74 = true := by decide +kernel
set_option maxRecDepth 100000 in
theorem x_k75 : x_ok 75 = true := by decide +kernel
set_option maxRecDepth 100000 in
theorem x_w75 : x_wok 75 = true := by decide +kernel
set_option maxRecDepth 100000 in
theorem x_k76 : x_ok 76 = true := by decide +kernel
set_option maxRecDepth 100000 in
theorem x_w76 : x_wok 76 = true := by decide +kernel
set_option maxRecDepth 100000 in
theorem x_k77 : x_ok 77 = true := by decide +kernel
set_option maxRecDepth 100000 in
theorem x_w77 : x_wok 77 = true := by decide +kernel
set_option maxRecDepth 100000 in
theorem x_k78 : x_ok 78 = true := by decide +kernel
set_option maxRecDepth 100000 in
theorem x_w78 : x_wok 78 = true := by decide +kernel
set_option maxRecDepth 100000 in
theorem x_k79 : x_ok 79 = true := by decide +kernel
set_option maxRecDepth 100000 in
theorem x_w79 : x_wok 79 = true := by decide +kernel
set_option maxRecDepth 100000 in
theorem x_k80 : x_ok 80 = true := by decide +kernel
set_option maxRecDepth 100000 in
theorem x_w80 : x_wok 80 = true := by decide +kernel
set_option maxRecDepth 100000 in
theorem x_k81 : x_ok 81 = true := by decide +kernel
set_option maxRecDepth 100000 in
theorem x_w81 : x_wok 81 = true := by decide +kernel
set_option maxRecDepth 100000 in
theorem x_k82 : x_ok 82 = true := by decide +kernel
set_option maxRecDepth 100000 in
theorem x_w82 : x_wok 82 = true := by decide +kernel
set_option maxRecDepth 100000 in
theorem x_k83 : x_ok 83 = true := by decide +kernel
set_option maxRecDepth 100000 in
theorem x_w83 : x_wok 83 = true := by decide +kernel
set_option maxRecDepth 100000 in
theorem x_k84 : x_ok 84 = true := by decide +kernel
set_option maxRecDepth 100000 in
theorem x_w84 : x_wok 84 = true := by decide +kernel

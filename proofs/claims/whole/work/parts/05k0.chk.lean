set_option maxRecDepth 100000 in
theorem x_k0 : x_ok 0 = true := by decide +kernel
set_option maxRecDepth 100000 in
theorem x_w0 : x_wok 0 = true := by decide +kernel
set_option maxRecDepth 100000 in
theorem x_k1 : x_ok 1 = true := by decide +kernel
set_option maxRecDepth 100000 in
theorem x_w1 : x_wok 1 = true := by decide +kernel
set_option maxRecDepth 100000 in
theorem x_k2 : x_ok 2 = true := by decide +kernel
set_option maxRecDepth 100000 in
theorem x_w2 : x_wok 2 = true := by decide +kernel
set_option maxRecDepth 100000 in
theorem x_k3 : x_ok 3 = true := by decide +kernel
set_option maxRecDepth 100000 in
theorem x_w3 : x_wok 3 = true := by decide +kernel
set_option maxRecDepth 100000 in
theorem x_k4 : x_ok 4 = true := by decide +kernel
set_option maxRecDepth 100000 in
theorem x_w4 : x_wok 4 = true := by decide +kernel
set_option maxRecDepth 100000 in
theorem x_k5 : x_ok 5 = true := by decide +kernel
set_option maxRecDepth 100000 in
theorem x_w5 : x_wok 5 = true := by decide +kernel
set_option maxRecDepth 100000 in
theorem x_k6 : x_ok 6 = true := by decide +kernel
set_option maxRecDepth 100000 in
theorem x_w6 : x_wok 6 = true := by decide +kernel
set_option maxRecDepth 100000 in
theorem x_k7 : x_ok 7 = true := by decide +kernel
set_option maxRecDepth 100000 in
theorem x_w7 : x_wok 7 = true := by decide +kernel
set_option maxRecDepth 100000 in
theorem x_k8 : x_ok 8 = true := by decide +kernel
set_option maxRecDepth 100000 in
theorem x_w8 : x_wok 8 = true := by decide +kernel
set_option maxRecDepth 100000 in
theorem x_k9 : x_ok 9 = true := by decide +kernel
set_option maxRecDepth 100000 in
theorem x_w9 : x_wok 9 = true := by decide +kernel
set_option maxRecDepth 100000 in
theorem x_k10 : x_ok 10 = true := by decide +kernel
set_option maxRecDepth 100000 in
theorem x_w10 : x_wok 10 = true := by decide +kernel
set_option maxRecDepth 100000 in
theorem x_k11 : x_ok 11 = true := by decide +kernel
set_option maxRecDepth 100000 in
theorem x_w11 : x_wok 11 = true := by decide +kernel
set_option maxRecDepth 100000 in
theorem x_k12 : x_ok 12 = true := by decide +kernel
set_option maxRecDepth 100000 in
theorem x_w12 : x_wok 12 = true := by decide +kernel
set_option maxRecDepth 100000 in
theorem x_k13 : x_ok 13 = true := by decide +kernel
set_option maxRecDepth 100000 in
theorem x_w13 : x_wok 13 = true := by decide +kernel
set_option maxRecDepth 100000 in
theorem x_k14 : x_ok 14 = true := by decide +kernel
set_option maxRecDepth 100000 in
theorem x_w14 : x_wok 14 = true := by decide +kernel
set_option maxRecDepth 100000 in
theorem x_k15 : x_ok 15 = true := by decide +kernel
set_option maxRecDepth 100000 in
theorem x_w15 : x_wok 15 = true := by decide +kernel
set_option maxRecDepth 100000 in
theorem x_k16 : x_ok 16 = true := by decide +kernel
set_option maxRecDepth 100000 in
theorem x_w16 : x_wok 16 = true := by decide +kernel
set_option maxRecDepth 100000 in
theorem x_k17 : x_ok 17 = true := by decide +kernel
set_option maxRecDepth 100000 in
theorem x_w17 : x_wok 17 = true := by decide +kernel
set_option maxRecDepth 100000 in
theorem x_k18 : x_ok 18 = true := by decide +kernel
set_option maxRecDepth 100000 in
theorem x_w18 : x_wok 18 = true := by decide +kernel
set_option maxRecDepth 100000 in
theorem x_k19 : x_ok 19 = true := by decide +kernel
set_option maxRecDepth 100000 in
theorem x_w19 : x_wok 19 = true := by decide +kernel
set_option maxRecDepth 100000 in
theorem x_k20 : x_ok 20 = true := by decide +kernel
set_option maxRecDepth 100000 in
theorem x_w20 : x_wok 20 = true := by decide +kernel
set_option maxRecDepth 100000 in
theorem x_k21 : x_ok 21 = true := by decide +kernel
set_option maxRecDepth 100000 in
theorem x_w21 : x_wok 21 = true := by decide +kernel
set_option maxRecDepth 100000 in
theorem x_k22 : x_ok 22 = true := by decide +kernel
set_option maxRecDepth 100000 in
theorem x_w22 : x_wok 22 = true := by decide +kernel
set_option maxRecDepth 100000 in
theorem x_k23 : x_ok 23 = true := by decide +kernel
set_option maxRecDepth 100000 in
theorem x_w23 : x_wok 23 = true := by decide +kernel
set_option maxRecDepth 100000 in
theorem x_k24 : x_ok 24 = true := by decide +kernel
set_option maxRecDepth 100000 in
theorem x_w24 : x_wok 24 = true := by decide +kernel
set_option maxRecDepth 100000 in
theorem x_k25 : x_ok 25 = true := by decide +kernel
set_option maxRecDepth 100000 in
theorem x_w25 : x_wok 25 = true := by decide +kernel
set_option maxRecDepth 100000 in
theorem x_k26 : x_ok 26 = true := by decide +kernel
set_option maxRecDepth 100000 in
theorem x_w26 : x_wok 26 = true := by decide +kernel
set_option maxRecDepth 100000 in
theorem x_k27 : x_ok 27 = true := by decide +kernel
set_option maxRecDepth 100000 in
theorem x_w27 : x_wok 27 = true := by decide +kernel

set_option maxRecDepth 100000 in
theorem x_kL13 : x_chk 272 (x_bpc 272 13) (x_blk 272 13) = true := by decide +kernel
set_option maxRecDepth 100000 in
theorem x_kL14 : x_chk 272 (x_bpc 272 14) (x_blk 272 14) = true := by decide +kernel
set_option maxRecDepth 100000 in
theorem x_kL15 : x_chk 272 (x_bpc 272 15) (x_blk 272 15) = true := by decide +kernel
set_option maxRecDepth 100000 in
theorem x_kL16 : x_chk 272 (x_bpc 272 16) (x_blk 272 16) = true := by decide +kernel
set_option maxRecDepth 100000 in
theorem x_kL17 : x_chk 272 (x_bpc 272 17) (x_blk 272 17) = true := by decide +kernel
set_option maxRecDepth 100000 in
theorem x_kL18 : x_chk 272 (x_bpc 272 18) (x_blk 272 18) = true := by decide +kernel
set_option maxRecDepth 100000 in
theorem x_kL19 : x_chk 272 (x_bpc 272 19) (x_blk 272 19) = true := by decide +kernel
set_option maxRecDepth 100000 in
theorem x_kL20 : x_chk 272 (x_bpc 272 20) (x_blk 272 20) = true := by decide +kernel
set_option maxRecDepth 100000 in
theorem x_kL21 : x_chk 272 (x_bpc 272 21) (x_blk 272 21) = true := by decide +kernel
set_option maxRecDepth 100000 in
theorem x_kL22 : x_chk 272 (x_bpc 272 22) (x_blk 272 22) = true := by decide +kernel
set_option maxRecDepth 100000 in
theorem x_kL23 : x_chk 272 (x_bpc 272 23) (x_blk 272 23) = true := by decide +kernel
set_option maxRecDepth 100000 in
theorem x_kL24 : x_chk 272 (x_bpc 272 24) (x_blk 272 24) = true := by decide +kernel
set_option maxRecDepth 100000 in
theorem x_kL25 : x_chk 272 (x_bpc 272 25) (x_blk 272 25) = true := by decide +kernel
set_option maxRecDepth 100000 in
theorem x_kL26 : x_chk 272 (x_bpc 272 26) (x_blk 272 26) = true := by decide +kernel

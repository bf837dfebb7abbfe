set_option maxRecDepth 100000 in
theorem x_kL0 : x_chk 272 (x_bpc 272 0) (x_blk 272 0) = true := by decide +kernel
set_option maxRecDepth 100000 in
theorem x_kL1 : x_chk 272 (x_bpc 272 1) (x_blk 272 1) = true := by decide +kernel
set_option maxRecDepth 100000 in
theorem x_kL2 : x_chk 272 (x_bpc 272 2) (x_blk 272 2) = true := by decide +kernel
set_option maxRecDepth 100000 in
theorem x_kL3 : x_chk 272 (x_bpc 272 3) (x_blk 272 3) = true := by decide +kernel
set_option maxRecDepth 100000 in
theorem x_kL4 : x_chk 272 (x_bpc 272 4) (x_blk 272 4) = true := by decide +kernel
set_option maxRecDepth 100000 in
theorem x_kL5 : x_chk 272 (x_bpc 272 5) (x_blk 272 5) = true := by decide +kernel
set_option maxRecDepth 100000 in
theorem x_kL6 : x_chk 272 (x_bpc 272 6) (x_blk 272 6) = true := by decide +kernel
set_option maxRecDepth 100000 in
theorem x_kL7 : x_chk 272 (x_bpc 272 7) (x_blk 272 7) = true := by decide +kernel
set_option maxRecDepth 100000 in
theorem x_kL8 : x_chk 272 (x_bpc 272 8) (x_blk 272 8) = true := by decide +kernel
set_option maxRecDepth 100000 in
theorem x_kL9 : x_chk 272 (x_bpc 272 9) (x_blk 272 9) = true := by decide +kernel
set_option maxRecDepth 100000 in
theorem x_kL10 : x_chk 272 (x_bpc 272 10) (x_blk 272 10) = true := by decide +kernel
set_option maxRecDepth 100000 in
theorem x_kL11 : x_chk 272 (x_bpc 272 11) (x_blk 272 11) = true := by decide +kernel
set_option maxRecDepth 100000 in
theorem x_kL12 : x_chk 272 (x_bpc 272 12) (x_blk 272 12) = true := by decide +kernel

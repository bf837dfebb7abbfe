set_option maxRecDepth 100000 in
theorem x_kL27 : x_chk 272 (x_bpc 272 27) (x_blk 272 27) = true := by decide +kernel
set_option maxRecDepth 100000 in
theorem x_kL28 : x_chk 272 (x_bpc 272 28) (x_blk 272 28) = true := by decide +kernel
set_option maxRecDepth 100000 in
theorem x_kL29 : x_chk 272 (x_bpc 272 29) (x_blk 272 29) = true := by decide +kernel
set_option maxRecDepth 100000 in
theorem x_kL30 : x_chk 272 (x_bpc 272 30) (x_blk 272 30) = true := by decide +kernel
set_option maxRecDepth 100000 in
theorem x_kL31 : x_chk 272 (x_bpc 272 31) (x_blk 272 31) = true := by decide +kernel
set_option maxRecDepth 100000 in
theorem x_kL32 : x_chk 272 (x_bpc 272 32) (x_blk 272 32) = true := by decide +kernel
set_option maxRecDepth 100000 in
theorem x_kL33 : x_chk 272 (x_bpc 272 33) (x_blk 272 33) = true := by decide +kernel
set_option maxRecDepth 100000 in
theorem x_kL34 : x_chk 272 (x_bpc 272 34) (x_blk 272 34) = true := by decide +kernel
set_option maxRecDepth 100000 in
theorem x_kL35 : x_chk 272 (x_bpc 272 35) (x_blk 272 35) = true := by decide +kernel
set_option maxRecDepth 100000 in
theorem x_kL36 : x_chk 272 (x_bpc 272 36) (x_blk 272 36) = true := by decide +kernel
set_option maxRecDepth 100000 in
theorem x_kL37 : x_chk 272 (x_bpc 272 37) (x_blk 272 37) = true := by decide +kernel
set_option maxRecDepth 100000 in
theorem x_kL38 : x_chk 272 (x_bpc 272 38) (x_blk 272 38) = true := by decide +kernel
set_option maxRecDepth 100000 in
theorem x_kL39 : x_chk 272 (x_bpc 272 39) (x_blk 272 39) = true := by decide +kernel

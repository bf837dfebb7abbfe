set_option maxRecDepth 100000 in
theorem x_kL40 : x_chk 272 (x_bpc 272 40) (x_blk 272 40) = true := by decide +kernel
set_option maxRecDepth 100000 in
theorem x_kL41 : x_chk 272 (x_bpc 272 41) (x_blk 272 41) = true := by decide +kernel
set_option maxRecDepth 100000 in
theorem x_kL42 : x_chk 272 (x_bpc 272 42) (x_blk 272 42) = true := by decide +kernel
set_option maxRecDepth 100000 in
theorem x_kL43 : x_chk 272 (x_bpc 272 43) (x_blk 272 43) = true := by decide +kernel
set_option maxRecDepth 100000 in
theorem x_kL44 : x_chk 272 (x_bpc 272 44) (x_blk 272 44) = true := by decide +kernel
set_option maxRecDepth 100000 in
theorem x_kL45 : x_chk 272 (x_bpc 272 45) (x_blk 272 45) = true := by decide +kernel
set_option maxRecDepth 100000 in
theorem x_kL46 : x_chk 272 (x_bpc 272 46) (x_blk 272 46) = true := by decide +kernel
set_option maxRecDepth 100000 in
theorem x_kL47 : x_chk 272 (x_bpc 272 47) (x_blk 272 47) = true := by decide +kernel
set_option maxRecDepth 100000 in
theorem x_kL48 : x_chk 272 (x_bpc 272 48) (x_blk 272 48) = true := by decide +kernel
set_option maxRecDepth 100000 in
theorem x_kL49 : x_chk 272 (x_bpc 272 49) (x_blk 272 49) = true := by decide +kernel
set_option maxRecDepth 100000 in
theorem x_kL50 : x_chk 272 (x_bpc 272 50) (x_blk 272 50) = true := by decide +kernel
set_option maxRecDepth 100000 in
theorem x_kL51 : x_chk 272 (x_bpc 272 51) (x_blk 272 51) = true := by decide +kernel
set_option maxRecDepth 100000 in
theorem x_kL52 : x_chk 272 (x_bpc 272 52) (x_blk 272 52) = true := by decide +kernel
set_option maxRecDepth 100000 in
theorem x_kL53 : x_chk 272 (x_bpc 272 53) (x_blk 272 53) = true := by decide +kernel

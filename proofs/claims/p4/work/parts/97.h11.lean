/-! ===== the law on every script: written by wip/vse3/law2.py ===== -/
set_option maxRecDepth 100000 in
theorem lw2_k20 : hdLaw2F lw2_t0 lw2_hs 4000 lw2_h20 = true := by decide +kernel
set_option maxRecDepth 100000 in
theorem lw2_k21 : hdLaw2F lw2_t0 lw2_hs 4000 lw2_h21 = true := by decide +kernel

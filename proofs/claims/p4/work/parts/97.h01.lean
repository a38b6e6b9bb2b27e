/-! ===== the law on every script: written by wip/vse3/law2.py ===== -/
set_option maxRecDepth 100000 in
theorem lw2_k0 : hdLaw2F lw2_t0 lw2_hs 4000 lw2_h0 = true := by decide +kernel
set_option maxRecDepth 100000 in
theorem lw2_k1 : hdLaw2F lw2_t0 lw2_hs 4000 lw2_h1 = true := by decide +kernel

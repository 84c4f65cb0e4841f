set_option maxRecDepth 100000 in
theorem qk0 : q_okm qm0 = true := by decide +kernel
set_option maxRecDepth 100000 in
theorem qk1 : q_okm qm1 = true := by decide +kernel
set_option maxRecDepth 100000 in
theorem qk2 : q_okm qm2 = true := by decide +kernel
set_option maxRecDepth 100000 in
theorem qk3 : q_okm qm3 = true := by decide +kernel
set_option maxRecDepth 100000 in
theorem qk4 : q_okm qm4 = true := by decide +kernel
set_option maxRecDepth 100000 in
theorem qk5 : q_okm qm5 = true := by decide +kernel
set_option maxRecDepth 100000 in
theorem qk6 : q_okm qm6 = true := by decide +kernel
set_option maxRecDepth 100000 in
theorem qk7 : q_okm qm7 = true := by decide +kernel
set_option maxRecDepth 100000 in
theorem qk8 : q_okm qm8 = true := by decide +kernel
set_option maxRecDepth 100000 in
theorem qk9 : q_okm qm9 = true := by decide +kernel
set_option maxRecDepth 100000 in
theorem qk10 : q_okm qm10 = true := by decide +kernel
set_option maxRecDepth 100000 in
theorem qk11 : q_okm qm11 = true := by decide +kernel
set_option maxRecDepth 100000 in
theorem qk12 : q_okm qm12 = true := by decide +kernel
set_option maxRecDepth 100000 in
theorem qk13 : q_okm qm13 = true := by decide +kernel
set_option maxRecDepth 100000 in
theorem qk14 : q_okm qm14 = true := by decide +kernel
set_option maxRecDepth 100000 in
theorem qk15 : q_okm qm15 = true := by decide +kernel
set_option maxRecDepth 100000 in
theorem qk16 : q_okm qm16 = true := by decide +kernel
set_option maxRecDepth 100000 in
theorem qk17 : q_okm qm17 = true := by decide +kernel
set_option maxRecDepth 100000 in
theorem qk18 : q_okm qm18 = true := by decide +kernel
set_option maxRecDepth 100000 in
theorem qk19 : q_okm qm19 = true := by decide +kernel
set_option maxRecDepth 100000 in
theorem qk20 : q_okm qm20 = true := by decide +kernel
set_option maxRecDepth 100000 in
theorem qk21 : q_okm qm21 = true := by decide +kernel
set_option maxRecDepth 100000 in
theorem qk22 : q_okm qm22 = true := by decide +kernel
set_option maxRecDepth 100000 in
theorem qk23 : q_okm qm23 = true := by decide +kernel
set_option maxRecDepth 100000 in
theorem qk24 : q_okm qm24 = true := by decide +kernel
set_option maxRecDepth 100000 in
theorem qk25 : q_okm qm25 = true := by decide +kernel
set_option maxRecDepth 100000 in
theorem qk26 : q_okm qm26 = true := by decide +kernel
set_option maxRecDepth 100000 in
theorem qk27 : q_okm qm27 = true := by decide +kernel
set_option maxRecDepth 100000 in
theorem qk28 : q_okm qm28 = true := by decide +kernel
set_option maxRecDepth 100000 in
theorem qk29 : q_okm qm29 = true := by decide +kernel
set_option maxRecDepth 100000 in
theorem qk30 : q_okm qm30 = true := by decide +kernel
set_option maxRecDepth 100000 in
theorem qk31 : q_okm qm31 = true := by decide +kernel
set_option maxRecDepth 100000 in
theorem qk32 : q_okm qm32 = true := by decide +kernel
set_option maxRecDepth 100000 in
theorem qk33 : q_okm qm33 = true := by decide +kernel
set_option maxRecDepth 100000 in
theorem qk34 : q_okm qm34 = true := by decide +kernel
set_option maxRecDepth 100000 in
theorem qk35 : q_okm qm35 = true := by decide +kernel
set_option maxRecDepth 100000 in
theorem qk36 : q_okm qm36 = true := by decide +kernel
set_option maxRecDepth 100000 in
theorem qk37 : q_okm qm37 = true := by decide +kernel
set_option maxRecDepth 100000 in
theorem qk38 : q_okm qm38 = true := by decide +kernel
set_option maxRecDepth 100000 in
theorem qk39 : q_okm qm39 = true := by decide +kernel
set_option maxRecDepth 100000 in
theorem qk40 : q_okm qm40 = true := by decide +kernel
set_option maxRecDepth 100000 in
theorem qk41 : q_okm qm41 = true := by decide +kernel
set_option maxRecDepth 100000 in
theorem qk42 : q_okm qm42 = true := by decide +kernel
set_option maxRecDepth 100000 in
theorem qk43 : q_okm qm43 = true := by decide +kernel
set_option maxRecDepth 100000 in
theorem qk44 : q_okm qm44 = true := by decide +kernel
set_option maxRecDepth 100000 in
theorem qk45 : q_okm qm45 = true := by decide +kernel
set_option maxRecDepth 100000 in
theorem qk46 : q_okm qm46 = true := by decide +kernel
set_option maxRecDepth 100000 in
theorem qk47 : q_okm qm47 = true := by decide +kernel
set_option maxRecDepth 100000 in
theorem qk48 : q_okm qm48 = true := by decide +kernel
set_option maxRecDepth 100000 in
theorem qk49 : q_okm qm49 = true := by decide +kernel

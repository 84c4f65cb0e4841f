set_option maxRecDepth 100000 in
theorem qk50 : q_okm qm50 = true := by decide +kernel
set_option maxRecDepth 100000 in
theorem qk51 : q_okm qm51 = true := by decide +kernel
set_option maxRecDepth 100000 in
theorem qk52 : q_okm qm52 = true := by decide +kernel
set_option maxRecDepth 100000 in
theorem qk53 : q_okm qm53 = true := by decide +kernel
set_option maxRecDepth 100000 in
theorem qk54 : q_okm qm54 = true := by decide +kernel
set_option maxRecDepth 100000 in
theorem qk55 : q_okm qm55 = true := by decide +kernel
set_option maxRecDepth 100000 in
theorem qk56 : q_okm qm56 = true := by decide +kernel
set_option maxRecDepth 100000 in
theorem qk57 : q_okm qm57 = true := by decide +kernel
set_option maxRecDepth 100000 in
theorem qk58 : q_okm qm58 = true := by decide +kernel
set_option maxRecDepth 100000 in
theorem qk59 : q_okm qm59 = true := by decide +kernel
set_option maxRecDepth 100000 in
theorem qk60 : q_okm qm60 = true := by decide +kernel
set_option maxRecDepth 100000 in
theorem qk61 : q_okm qm61 = true := by decide +kernel
set_option maxRecDepth 100000 in
theorem qk62 : q_okm qm62 = true := by decide +kernel
set_option maxRecDepth 100000 in
theorem qk63 : q_okm qm63 = true := by decide +kernel
set_option maxRecDepth 100000 in
theorem qk64 : q_okm qm64 = true := by decide +kernel
set_option maxRecDepth 100000 in
theorem qk65 : q_okm qm65 = true := by decide +kernel
set_option maxRecDepth 100000 in
theorem qk66 : q_okm qm66 = true := by decide +kernel
set_option maxRecDepth 100000 in
theorem qk67 : q_okm qm67 = true := by decide +kernel
set_option maxRecDepth 100000 in
theorem qk68 : q_okm qm68 = true := by decide +kernel
set_option maxRecDepth 100000 in
theorem qk69 : q_okm qm69 = true := by decide +kernel
set_option maxRecDepth 100000 in
theorem qk70 : q_okm qm70 = true := by decide +kernel
set_option maxRecDepth 100000 in
theorem qk71 : q_okm qm71 = true := by decide +kernel
set_option maxRecDepth 100000 in
theorem qk72 : q_okm qm72 = true := by decide +kernel
set_option maxRecDepth 100000 in
theorem qk73 : q_okm qm73 = true := by decide +kernel
set_option maxRecDepth 100000 in
theorem qk74 : q_okm qm74 = true := by decide +kernel
set_option maxRecDepth 100000 in
theorem qk75 : q_okm qm75 = true := by decide +kernel
set_option maxRecDepth 100000 in
theorem qk76 : q_okm qm76 = true := by decide +kernel
set_option maxRecDepth 100000 in
theorem qk77 : q_okm qm77 = true := by decide +kernel
set_option maxRecDepth 100000 in
theorem qk78 : q_okm qm78 = true := by decide +kernel
set_option maxRecDepth 100000 in
theorem qk79 : q_okm qm79 = true := by decide +kernel
set_option maxRecDepth 100000 in
theorem qk80 : q_okm qm80 = true := by decide +kernel
set_option maxRecDepth 100000 in
theorem qk81 : q_okm qm81 = true := by decide +kernel
set_option maxRecDepth 100000 in
theorem qk82 : q_okm qm82 = true := by decide +kernel
set_option maxRecDepth 100000 in
theorem qk83 : q_okm qm83 = true := by decide +kernel
set_option maxRecDepth 100000 in
theorem qk84 : q_okm qm84 = true := by decide +kernel
set_option maxRecDepth 100000 in
theorem qk85 : q_okm qm85 = true := by decide +kernel
set_option maxRecDepth 100000 in
theorem qk86 : q_okm qm86 = true := by decide +kernel
set_option maxRecDepth 100000 in
theorem qk87 : q_okm qm87 = true := by decide +kernel
set_option maxRecDepth 100000 in
theorem qk88 : q_okm qm88 = true := by decide +kernel
set_option maxRecDepth 100000 in
theorem qk89 : q_okm qm89 = true := by decide +kernel
set_option maxRecDepth 100000 in
theorem qk90 : q_okm qm90 = true := by decide +kernel
set_option maxRecDepth 100000 in
theorem qk91 : q_okm qm91 = true := by decide +kernel
set_option maxRecDepth 100000 in
theorem qk92 : q_okm qm92 = true := by decide +kernel
set_option maxRecDepth 100000 in
theorem qk93 : q_okm qm93 = true := by decide +kernel
set_option maxRecDepth 100000 in
theorem qk94 : q_okm qm94 = true := by decide +kernel
set_option maxRecDepth 100000 in
theorem qk95 : q_okm qm95 = true := by decide +kernel
set_option maxRecDepth 100000 in
theorem qk96 : q_okm qm96 = true := by decide +kernel
set_option maxRecDepth 100000 in
theorem qk97 : q_okm qm97 = true := by decide +kernel
set_option maxRecDepth 100000 in
theorem qk98 : q_okm qm98 = true := by decide +kernel
set_option maxRecDepth 100000 in
theorem qk99 : q_okm qm99 = true := by decide +kernel

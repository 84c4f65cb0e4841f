set_option maxRecDepth 100000 in
theorem qk100 : q_okm qm100 = true := by decide +kernel
set_option maxRecDepth 100000 in
theorem qk101 : q_okm qm101 = true := by decide +kernel
set_option maxRecDepth 100000 in
theorem qk102 : q_okm qm102 = true := by decide +kernel
set_option maxRecDepth 100000 in
theorem qk103 : q_okm qm103 = true := by decide +kernel
set_option maxRecDepth 100000 in
theorem qk104 : q_okm qm104 = true := by decide +kernel
set_option maxRecDepth 100000 in
theorem qk105 : q_okm qm105 = true := by decide +kernel
set_option maxRecDepth 100000 in
theorem qk106 : q_okm qm106 = true := by decide +kernel
set_option maxRecDepth 100000 in
theorem qk107 : q_okm qm107 = true := by decide +kernel
set_option maxRecDepth 100000 in
theorem qk108 : q_okm qm108 = true := by decide +kernel
set_option maxRecDepth 100000 in
theorem qk109 : q_okm qm109 = true := by decide +kernel
set_option maxRecDepth 100000 in
theorem qk110 : q_okm qm110 = true := by decide +kernel
set_option maxRecDepth 100000 in
theorem qk111 : q_okm qm111 = true := by decide +kernel
set_option maxRecDepth 100000 in
theorem qk112 : q_okm qm112 = true := by decide +kernel
set_option maxRecDepth 100000 in
theorem qk113 : q_okm qm113 = true := by decide +kernel
set_option maxRecDepth 100000 in
theorem qk114 : q_okm qm114 = true := by decide +kernel
set_option maxRecDepth 100000 in
theorem qk115 : q_okm qm115 = true := by decide +kernel
set_option maxRecDepth 100000 in
theorem qk116 : q_okm qm116 = true := by decide +kernel
set_option maxRecDepth 100000 in
theorem qk117 : q_okm qm117 = true := by decide +kernel
set_option maxRecDepth 100000 in
theorem qk118 : q_okm qm118 = true := by decide +kernel
set_option maxRecDepth 100000 in
theorem qk119 : q_okm qm119 = true := by decide +kernel
set_option maxRecDepth 100000 in
theorem qk120 : q_okm qm120 = true := by decide +kernel
set_option maxRecDepth 100000 in
theorem qk121 : q_okm qm121 = true := by decide +kernel
set_option maxRecDepth 100000 in
theorem qk122 : q_okm qm122 = true := by decide +kernel
set_option maxRecDepth 100000 in
theorem qk123 : q_okm qm123 = true := by decide +kernel
set_option maxRecDepth 100000 in
theorem qk124 : q_okm qm124 = true := by decide +kernel
set_option maxRecDepth 100000 in
theorem qk125 : q_okm qm125 = true := by decide +kernel
set_option maxRecDepth 100000 in
theorem qk126 : q_okm qm126 = true := by decide +kernel
set_option maxRecDepth 100000 in
theorem qk127 : q_okm qm127 = true := by decide +kernel
set_option maxRecDepth 100000 in
theorem qk128 : q_okm qm128 = true := by decide +kernel
set_option maxRecDepth 100000 in
theorem qk129 : q_okm qm129 = true := by decide +kernel
set_option maxRecDepth 100000 in
theorem qk130 : q_okm qm130 = true := by decide +kernel
set_option maxRecDepth 100000 in
theorem qk131 : q_okm qm131 = true := by decide +kernel
set_option maxRecDepth 100000 in
theorem qk132 : q_okm qm132 = true := by decide +kernel
set_option maxRecDepth 100000 in
theorem qk133 : q_okm qm133 = true := by decide +kernel
set_option maxRecDepth 100000 in
theorem qk134 : q_okm qm134 = true := by decide +kernel
set_option maxRecDepth 100000 in
theorem qk135 : q_okm qm135 = true := by decide +kernel
set_option maxRecDepth 100000 in
theorem qk136 : q_okm qm136 = true := by decide +kernel
set_option maxRecDepth 100000 in
theorem qk137 : q_okm qm137 = true := by decide +kernel
set_option maxRecDepth 100000 in
theorem qk138 : q_okm qm138 = true := by decide +kernel
set_option maxRecDepth 100000 in
theorem qk139 : q_okm qm139 = true := by decide +kernel
set_option maxRecDepth 100000 in
theorem qk140 : q_okm qm140 = true := by decide +kernel
set_option maxRecDepth 100000 in
theorem qk141 : q_okm qm141 = true := by decide +kernel
set_option maxRecDepth 100000 in
theorem qk142 : q_okm qm142 = true := by decide +kernel
set_option maxRecDepth 100000 in
theorem qk143 : q_okm qm143 = true := by decide +kernel
set_option maxRecDepth 100000 in
theorem qk144 : q_okm qm144 = true := by decide +kernel
set_option maxRecDepth 100000 in
theorem qk145 : q_okm qm145 = true := by decide +kernel
set_option maxRecDepth 100000 in
theorem qk146 : q_okm qm146 = true := by decide +kernel
set_option maxRecDepth 100000 in
theorem qk147 : q_okm qm147 = true := by decide +kernel
set_option maxRecDepth 100000 in
theorem qk148 : q_okm qm148 = true := by decide +kernel
set_option maxRecDepth 100000 in
theorem qk149 : q_okm qm149 = true := by decide +kernel

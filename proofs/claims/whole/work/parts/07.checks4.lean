set_option maxRecDepth 100000 in
theorem qk150 : q_okm qm150 = true := by decide +kernel
set_option maxRecDepth 100000 in
theorem qk151 : q_okm qm151 = true := by decide +kernel
set_option maxRecDepth 100000 in
theorem qk152 : q_okm qm152 = true := by decide +kernel
set_option maxRecDepth 100000 in
theorem qk153 : q_okm qm153 = true := by decide +kernel
set_option maxRecDepth 100000 in
theorem qk154 : q_okm qm154 = true := by decide +kernel
set_option maxRecDepth 100000 in
theorem qk155 : q_okm qm155 = true := by decide +kernel
set_option maxRecDepth 100000 in
theorem qk156 : q_okm qm156 = true := by decide +kernel
set_option maxRecDepth 100000 in
theorem qk157 : q_okm qm157 = true := by decide +kernel
set_option maxRecDepth 100000 in
theorem qk158 : q_okm qm158 = true := by decide +kernel
set_option maxRecDepth 100000 in
theorem qk159 : q_okm qm159 = true := by decide +kernel
set_option maxRecDepth 100000 in
theorem qk160 : q_okm qm160 = true := by decide +kernel
set_option maxRecDepth 100000 in
theorem qk161 : q_okm qm161 = true := by decide +kernel
set_option maxRecDepth 100000 in
theorem qk162 : q_okm qm162 = true := by decide +kernel
set_option maxRecDepth 100000 in
theorem qk163 : q_okm qm163 = true := by decide +kernel
set_option maxRecDepth 100000 in
theorem qk164 : q_okm qm164 = true := by decide +kernel
set_option maxRecDepth 100000 in
theorem qk165 : q_okm qm165 = true := by decide +kernel
set_option maxRecDepth 100000 in
theorem qk166 : q_okm qm166 = true := by decide +kernel
set_option maxRecDepth 100000 in
theorem qk167 : q_okm qm167 = true := by decide +kernel
set_option maxRecDepth 100000 in
theorem qk168 : q_okm qm168 = true := by decide +kernel
set_option maxRecDepth 100000 in
theorem qk169 : q_okm qm169 = true := by decide +kernel
set_option maxRecDepth 100000 in
theorem qk170 : q_okm qm170 = true := by decide +kernel
set_option maxRecDepth 100000 in
theorem qk171 : q_okm qm171 = true := by decide +kernel
set_option maxRecDepth 100000 in
theorem qk172 : q_okm qm172 = true := by decide +kernel
set_option maxRecDepth 100000 in
theorem qk173 : q_okm qm173 = true := by decide +kernel
set_option maxRecDepth 100000 in
theorem qk174 : q_okm qm174 = true := by decide +kernel
set_option maxRecDepth 100000 in
theorem qk175 : q_okm qm175 = true := by decide +kernel
set_option maxRecDepth 100000 in
theorem qk176 : q_okm qm176 = true := by decide +kernel
set_option maxRecDepth 100000 in
theorem qk177 : q_okm qm177 = true := by decide +kernel
set_option maxRecDepth 100000 in
theorem qk178 : q_okm qm178 = true := by decide +kernel
set_option maxRecDepth 100000 in
theorem qk179 : q_okm qm179 = true := by decide +kernel
set_option maxRecDepth 100000 in
theorem qk180 : q_okm qm180 = true := by decide +kernel
set_option maxRecDepth 100000 in
theorem qk181 : q_okm qm181 = true := by decide +kernel
set_option maxRecDepth 100000 in
theorem qk182 : q_okm qm182 = true := by decide +kernel
set_option maxRecDepth 100000 in
theorem qk183 : q_okm qm183 = true := by decide +kernel
set_option maxRecDepth 100000 in
theorem qk184 : q_okm qm184 = true := by decide +kernel
set_option maxRecDepth 100000 in
theorem qk185 : q_okm qm185 = true := by decide +kernel
set_option maxRecDepth 100000 in
theorem qk186 : q_okm qm186 = true := by decide +kernel
set_option maxRecDepth 100000 in
theorem qk187 : q_okm qm187 = true := by decide +kernel
set_option maxRecDepth 100000 in
theorem qk188 : q_okm qm188 = true := by decide +kernel
set_option maxRecDepth 100000 in
theorem qk189 : q_okm qm189 = true := by decide +kernel
set_option maxRecDepth 100000 in
theorem qk190 : q_okm qm190 = true := by decide +kernel
set_option maxRecDepth 100000 in
theorem qk191 : q_okm qm191 = true := by decide +kernel
set_option maxRecDepth 100000 in
theorem qk192 : q_okm qm192 = true := by decide +kernel
set_option maxRecDepth 100000 in
theorem qk193 : q_okm qm193 = true := by decide +kernel
set_option maxRecDepth 100000 in
theorem qk194 : q_okm qm194 = true := by decide +kernel
set_option maxRecDepth 100000 in
theorem qk195 : q_okm qm195 = true := by decide +kernel
set_option maxRecDepth 100000 in
theorem qk196 : q_okm qm196 = true := by decide +kernel
set_option maxRecDepth 100000 in
theorem qk197 : q_okm qm197 = true := by decide +kernel
set_option maxRecDepth 100000 in
theorem qk198 : q_okm qm198 = true := by decide +kernel
set_option maxRecDepth 100000 in
theorem qk199 : q_okm qm199 = true := by decide +kernel
set_option maxRecDepth 100000 in
theorem qk200 : q_okm qm200 = true := by decide +kernel
theorem q_ys_ok : q_ms.map (fun l => l.map (fun M => (M.1, M.2.1, M.2.2.1, M.2.2.2.1, M.2.2.2.2.1, M.2.2.2.2.2.1))) = q_ys := rfl
set_option maxRecDepth 100000 in
theorem q_oky_all : ∀ mi, mi < 201 → q_oky mi = true := by decide +kernel

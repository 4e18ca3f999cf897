theorem ok_135 : k_chk 135 c_135 = true := by decide +kernel
theorem ok_136_0 : k_chk 136 (c_136.take 60) = true := by decide +kernel
theorem ok_136_1 : k_chk 136 (c_136.drop 60) = true := by decide +kernel
theorem ok_136 : k_chk 136 c_136 = true := (k_chk_app 60 ok_136_0 ok_136_1)
theorem ok_137 : k_chk 137 c_137 = true := by decide +kernel
theorem ok_138 : k_chk 138 c_138 = true := by decide +kernel
theorem ok_139 : k_chk 139 c_139 = true := by decide +kernel
theorem ok_140 : k_chk 140 c_140 = true := by decide +kernel
theorem ok_141 : k_chk 141 c_141 = true := by decide +kernel
theorem ok_142 : k_chk 142 c_142 = true := by decide +kernel
theorem ok_143 : k_chk 143 c_143 = true := by decide +kernel
theorem ok_144 : k_chk 144 c_144 = true := by decide +kernel
theorem ok_145 : k_chk 145 c_145 = true := by decide +kernel
theorem ok_146_0 : k_chk 146 (c_146.take 60) = true := by decide +kernel
theorem ok_146_1 : k_chk 146 ((c_146.drop 60).take 60) = true := by decide +kernel
theorem ok_146_2 : k_chk 146 ((c_146.drop 60).drop 60) = true := by decide +kernel
theorem ok_146 : k_chk 146 c_146 = true := (k_chk_app 60 ok_146_0 (k_chk_app 60 ok_146_1 ok_146_2))
theorem ok_147_0 : k_chk 147 (c_147.take 60) = true := by decide +kernel
theorem ok_147_1 : k_chk 147 (c_147.drop 60) = true := by decide +kernel
theorem ok_147 : k_chk 147 c_147 = true := (k_chk_app 60 ok_147_0 ok_147_1)
theorem ok_148 : k_chk 148 c_148 = true := by decide +kernel
theorem ok_149 : k_chk 149 c_149 = true := by decide +kernel
theorem ok_150 : k_chk 150 c_150 = true := by decide +kernel
theorem ok_151 : k_chk 151 c_151 = true := by decide +kernel
theorem ok_152_0 : k_chk 152 (c_152.take 60) = true := by decide +kernel
theorem ok_152_1 : k_chk 152 (c_152.drop 60) = true := by decide +kernel
theorem ok_152 : k_chk 152 c_152 = true := (k_chk_app 60 ok_152_0 ok_152_1)
theorem ok_153 : k_chk 153 c_153 = true := by decide +kernel
theorem ok_154 : k_chk 154 c_154 = true := by decide +kernel
theorem ok_155 : k_chk 155 c_155 = true := by decide +kernel
theorem ok_156 : k_chk 156 c_156 = true := by decide +kernel
theorem ok_157 : k_chk 157 c_157 = true := by decide +kernel
theorem ok_158 : k_chk 158 c_158 = true := by decide +kernel
theorem ok_159 : k_chk 159 c_159 = true := by decide +kernel
theorem ok_160 : k_chk 160 c_160 = true := by decide +kernel
theorem ok_161_0 : k_chk 161 (c_161.take 60) = true := by decide +kernel
theorem ok_161_1 : k_chk 161 (c_161.drop 60) = true := by decide +kernel
theorem ok_161 : k_chk 161 c_161 = true := (k_chk_app 60 ok_161_0 ok_161_1)

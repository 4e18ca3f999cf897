theorem ok_105 : k_chk 105 c_105 = true := by decide +kernel
theorem ok_106 : k_chk 106 c_106 = true := by decide +kernel
theorem ok_107 : k_chk 107 c_107 = true := by decide +kernel
theorem ok_108 : k_chk 108 c_108 = true := by decide +kernel
theorem ok_109 : k_chk 109 c_109 = true := by decide +kernel
theorem ok_110 : k_chk 110 c_110 = true := by decide +kernel
theorem ok_111 : k_chk 111 c_111 = true := by decide +kernel
theorem ok_112 : k_chk 112 c_112 = true := by decide +kernel
theorem ok_113 : k_chk 113 c_113 = true := by decide +kernel
theorem ok_114 : k_chk 114 c_114 = true := by decide +kernel
theorem ok_115_0 : k_chk 115 (c_115.take 60) = true := by decide +kernel
theorem ok_115_1 : k_chk 115 (c_115.drop 60) = true := by decide +kernel
theorem ok_115 : k_chk 115 c_115 = true := (k_chk_app 60 ok_115_0 ok_115_1)
theorem ok_116_0 : k_chk 116 (c_116.take 60) = true := by decide +kernel
theorem ok_116_1 : k_chk 116 (c_116.drop 60) = true := by decide +kernel
theorem ok_116 : k_chk 116 c_116 = true := (k_chk_app 60 ok_116_0 ok_116_1)
theorem ok_117 : k_chk 117 c_117 = true := by decide +kernel
theorem ok_118_0 : k_chk 118 (c_118.take 60) = true := by decide +kernel
theorem ok_118_1 : k_chk 118 (c_118.drop 60) = true := by decide +kernel
theorem ok_118 : k_chk 118 c_118 = true := (k_chk_app 60 ok_118_0 ok_118_1)
theorem ok_119_0 : k_chk 119 (c_119.take 60) = true := by decide +kernel
theorem ok_119_1 : k_chk 119 ((c_119.drop 60).take 60) = true := by decide +kernel
theorem ok_119_2 : k_chk 119 ((c_119.drop 60).drop 60) = true := by decide +kernel
theorem ok_119 : k_chk 119 c_119 = true := (k_chk_app 60 ok_119_0 (k_chk_app 60 ok_119_1 ok_119_2))
theorem ok_120 : k_chk 120 c_120 = true := by decide +kernel
theorem ok_121 : k_chk 121 c_121 = true := by decide +kernel
theorem ok_122 : k_chk 122 c_122 = true := by decide +kernel
theorem ok_123_0 : k_chk 123 (c_123.take 60) = true := by decide +kernel
theorem ok_123_1 : k_chk 123 (c_123.drop 60) = true := by decide +kernel
theorem ok_123 : k_chk 123 c_123 = true := (k_chk_app 60 ok_123_0 ok_123_1)
theorem ok_124 : k_chk 124 c_124 = true := by decide +kernel
theorem ok_125 : k_chk 125 c_125 = true := by decide +kernel
theorem ok_126 : k_chk 126 c_126 = true := by decide +kernel
theorem ok_127 : k_chk 127 c_127 = true := by decide +kernel
theorem ok_128_0 : k_chk 128 (c_128.take 60) = true := by decide +kernel
theorem ok_128_1 : k_chk 128 (c_128.drop 60) = true := by decide +kernel
theorem ok_128 : k_chk 128 c_128 = true := (k_chk_app 60 ok_128_0 ok_128_1)
theorem ok_129 : k_chk 129 c_129 = true := by decide +kernel
theorem ok_130 : k_chk 130 c_130 = true := by decide +kernel
theorem ok_131 : k_chk 131 c_131 = true := by decide +kernel
theorem ok_132 : k_chk 132 c_132 = true := by decide +kernel
theorem ok_133 : k_chk 133 c_133 = true := by decide +kernel
theorem ok_134 : k_chk 134 c_134 = true := by decide +kernel

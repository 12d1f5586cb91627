theorem vk_100 : (tb_100.all (vok 100)) = true := by decide +kernel
theorem vk_101 : (tb_101.all (vok 101)) = true := by decide +kernel
theorem vk_102 : (tb_102.all (vok 102)) = true := by decide +kernel
theorem vk_103 : (tb_103.all (vok 103)) = true := by decide +kernel
theorem vk_104 : (tb_104.all (vok 104)) = true := by decide +kernel
theorem vk_105 : (tb_105.all (vok 105)) = true := by decide +kernel
theorem vk_106 : (tb_106.all (vok 106)) = true := by decide +kernel
theorem vk_107 : (tb_107.all (vok 107)) = true := by decide +kernel
theorem vk_108 : (tb_108.all (vok 108)) = true := by decide +kernel
theorem vk_109 : (tb_109.all (vok 109)) = true := by decide +kernel
theorem vk_110 : (tb_110.all (vok 110)) = true := by decide +kernel
theorem vk_111 : (tb_111.all (vok 111)) = true := by decide +kernel
theorem vk_112 : (tb_112.all (vok 112)) = true := by decide +kernel
theorem vk_113 : (tb_113.all (vok 113)) = true := by decide +kernel
theorem vk_114 : (tb_114.all (vok 114)) = true := by decide +kernel
theorem vk_115 : (tb_115.all (vok 115)) = true := by decide +kernel
theorem vk_116 : (tb_116.all (vok 116)) = true := by decide +kernel
theorem vk_117 : (tb_117.all (vok 117)) = true := by decide +kernel
theorem vk_118 : (tb_118.all (vok 118)) = true := by decide +kernel
theorem vk_119 : (tb_119.all (vok 119)) = true := by decide +kernel
theorem vk_120 : (tb_120.all (vok 120)) = true := by decide +kernel
theorem vk_121 : (tb_121.all (vok 121)) = true := by decide +kernel
theorem vk_122 : (tb_122.all (vok 122)) = true := by decide +kernel
theorem vk_123 : (tb_123.all (vok 123)) = true := by decide +kernel
theorem vk_124 : (tb_124.all (vok 124)) = true := by decide +kernel
theorem vk_125 : (tb_125.all (vok 125)) = true := by decide +kernel
theorem vk_126 : (tb_126.all (vok 126)) = true := by decide +kernel
theorem vk_127 : (tb_127.all (vok 127)) = true := by decide +kernel
theorem vk_128 : (tb_128.all (vok 128)) = true := by decide +kernel
theorem vk_129 : (tb_129.all (vok 129)) = true := by decide +kernel
theorem vk_130 : (tb_130.all (vok 130)) = true := by decide +kernel
theorem vk_131 : (tb_131.all (vok 131)) = true := by decide +kernel
theorem vk_132 : (tb_132.all (vok 132)) = true := by decide +kernel
theorem vk_133 : (tb_133.all (vok 133)) = true := by decide +kernel
theorem vk_134 : (tb_134.all (vok 134)) = true := by decide +kernel
theorem vk_135 : (tb_135.all (vok 135)) = true := by decide +kernel
theorem vk_136 : (tb_136.all (vok 136)) = true := by decide +kernel
theorem vk_137 : (tb_137.all (vok 137)) = true := by decide +kernel
theorem vk_138 : (tb_138.all (vok 138)) = true := by decide +kernel
theorem vk_139 : (tb_139.all (vok 139)) = true := by decide +kernel
theorem vk_140_0 : (((tb_140.drop 0).take 80).all (vok 140)) = true := by decide +kernel
theorem vk_140_80 : (((tb_140.drop 80).take 80).all (vok 140)) = true := by decide +kernel
theorem vk_140_160 : (((tb_140.drop 160).take 80).all (vok 140)) = true := by decide +kernel
theorem vk_140 : (tb_140.all (vok 140)) = true := by
  rw [← List.take_append_drop 80 tb_140, List.all_append]
  have h0 := vk_140_0
  rw [List.drop_zero] at h0
  rw [h0]
  rw [← List.take_append_drop 80 (tb_140.drop 80), List.all_append, vk_140_80, List.drop_drop]
  decide +kernel
theorem vk_141 : (tb_141.all (vok 141)) = true := by decide +kernel
theorem vk_142 : (tb_142.all (vok 142)) = true := by decide +kernel
theorem vk_143 : (tb_143.all (vok 143)) = true := by decide +kernel
theorem vk_144 : (tb_144.all (vok 144)) = true := by decide +kernel
theorem vk_145 : (tb_145.all (vok 145)) = true := by decide +kernel
theorem vk_146 : (tb_146.all (vok 146)) = true := by decide +kernel
theorem vk_147 : (tb_147.all (vok 147)) = true := by decide +kernel
theorem vk_148 : (tb_148.all (vok 148)) = true := by decide +kernel
theorem vk_149 : (tb_149.all (vok 149)) = true := by decide +kernel
theorem vk_150 : (tb_150.all (vok 150)) = true := by decide +kernel
theorem vk_151 : (tb_151.all (vok 151)) = true := by decide +kernel
theorem vk_152 : (tb_152.all (vok 152)) = true := by decide +kernel
theorem vk_153 : (tb_153.all (vok 153)) = true := by decide +kernel
theorem vk_154 : (tb_154.all (vok 154)) = true := by decide +kernel
theorem vk_155 : (tb_155.all (vok 155)) = true := by decide +kernel
theorem vk_156 : (tb_156.all (vok 156)) = true := by decide +kernel
theorem vk_157 : (tb_157.all (vok 157)) = true := by decide +kernel
theorem vk_158 : (tb_158.all (vok 158)) = true := by decide +kernel
theorem vk_159 : (tb_159.all (vok 159)) = true := by decide +kernel
theorem vk_160 : (tb_160.all (vok 160)) = true := by decide +kernel
theorem vk_161 : (tb_161.all (vok 161)) = true := by decide +kernel
theorem vk_162 : (tb_162.all (vok 162)) = true := by decide +kernel
theorem vk_163 : (tb_163.all (vok 163)) = true := by decide +kernel
theorem vk_164 : (tb_164.all (vok 164)) = true := by decide +kernel
theorem vk_165 : (tb_165.all (vok 165)) = true := by decide +kernel
theorem vk_166 : (tb_166.all (vok 166)) = true := by decide +kernel
theorem vk_167 : (tb_167.all (vok 167)) = true := by decide +kernel
theorem vk_168_0 : (((tb_168.drop 0).take 80).all (vok 168)) = true := by decide +kernel
theorem vk_168_80 : (((tb_168.drop 80).take 80).all (vok 168)) = true := by decide +kernel
theorem vk_168_160 : (((tb_168.drop 160).take 80).all (vok 168)) = true := by decide +kernel
theorem vk_168 : (tb_168.all (vok 168)) = true := by
  rw [← List.take_append_drop 80 tb_168, List.all_append]
  have h0 := vk_168_0
  rw [List.drop_zero] at h0
  rw [h0]
  rw [← List.take_append_drop 80 (tb_168.drop 80), List.all_append, vk_168_80, List.drop_drop]
  decide +kernel
theorem vk_169 : (tb_169.all (vok 169)) = true := by decide +kernel
theorem vk_170 : (tb_170.all (vok 170)) = true := by decide +kernel
theorem vk_171 : (tb_171.all (vok 171)) = true := by decide +kernel
theorem vk_172 : (tb_172.all (vok 172)) = true := by decide +kernel
theorem vk_173 : (tb_173.all (vok 173)) = true := by decide +kernel
theorem vk_174 : (tb_174.all (vok 174)) = true := by decide +kernel
theorem vk_175 : (tb_175.all (vok 175)) = true := by decide +kernel
theorem vk_176 : (tb_176.all (vok 176)) = true := by decide +kernel
theorem vk_177 : (tb_177.all (vok 177)) = true := by decide +kernel
theorem vk_178 : (tb_178.all (vok 178)) = true := by decide +kernel
theorem vk_179 : (tb_179.all (vok 179)) = true := by decide +kernel
theorem vk_180 : (tb_180.all (vok 180)) = true := by decide +kernel
theorem vk_181 : (tb_181.all (vok 181)) = true := by decide +kernel
theorem vk_182 : (tb_182.all (vok 182)) = true := by decide +kernel
theorem vk_183 : (tb_183.all (vok 183)) = true := by decide +kernel
theorem vk_184 : (tb_184.all (vok 184)) = true := by decide +kernel
theorem vk_185 : (tb_185.all (vok 185)) = true := by decide +kernel
theorem vk_186 : (tb_186.all (vok 186)) = true := by decide +kernel
theorem vk_187 : (tb_187.all (vok 187)) = true := by decide +kernel
theorem vk_188 : (tb_188.all (vok 188)) = true := by decide +kernel
theorem vk_189 : (tb_189.all (vok 189)) = true := by decide +kernel
theorem vk_190 : (tb_190.all (vok 190)) = true := by decide +kernel
theorem vk_191 : (tb_191.all (vok 191)) = true := by decide +kernel
theorem vk_192 : (tb_192.all (vok 192)) = true := by decide +kernel
theorem vk_193 : (tb_193.all (vok 193)) = true := by decide +kernel
theorem vk_194 : (tb_194.all (vok 194)) = true := by decide +kernel

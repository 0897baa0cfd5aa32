/-! checks of rows -/
set_option maxRecDepth 100000 in
theorem gk_114 : gw_114.all (fun q => sm_okb 114 q.1 q.2) = true := by decide +kernel
set_option maxRecDepth 100000 in
theorem gk_115 : gw_115.all (fun q => sm_okb 115 q.1 q.2) = true := by decide +kernel
set_option maxRecDepth 100000 in
theorem gk_116_0 : gw_116_0.all (fun q => sm_okb 116 q.1 q.2) = true := by decide +kernel
set_option maxRecDepth 100000 in
theorem gk_116_1 : gw_116_1.all (fun q => sm_okb 116 q.1 q.2) = true := by decide +kernel
theorem gk_116 : gw_116.all (fun q => sm_okb 116 q.1 q.2) = true := sm_aa gk_116_0 (gk_116_1)
set_option maxRecDepth 100000 in
theorem gk_117 : gw_117.all (fun q => sm_okb 117 q.1 q.2) = true := by decide +kernel
set_option maxRecDepth 100000 in
theorem gk_118_0 : gw_118_0.all (fun q => sm_okb 118 q.1 q.2) = true := by decide +kernel
set_option maxRecDepth 100000 in
theorem gk_118_1 : gw_118_1.all (fun q => sm_okb 118 q.1 q.2) = true := by decide +kernel
set_option maxRecDepth 100000 in
theorem gk_118_2 : gw_118_2.all (fun q => sm_okb 118 q.1 q.2) = true := by decide +kernel
theorem gk_118 : gw_118.all (fun q => sm_okb 118 q.1 q.2) = true := sm_aa gk_118_0 (sm_aa gk_118_1 (gk_118_2))
set_option maxRecDepth 100000 in
theorem gk_119_0 : gw_119_0.all (fun q => sm_okb 119 q.1 q.2) = true := by decide +kernel
set_option maxRecDepth 100000 in
theorem gk_119_1 : gw_119_1.all (fun q => sm_okb 119 q.1 q.2) = true := by decide +kernel
theorem gk_119 : gw_119.all (fun q => sm_okb 119 q.1 q.2) = true := sm_aa gk_119_0 (gk_119_1)
set_option maxRecDepth 100000 in
theorem gk_120_0 : gw_120_0.all (fun q => sm_okb 120 q.1 q.2) = true := by decide +kernel
set_option maxRecDepth 100000 in
theorem gk_120_1 : gw_120_1.all (fun q => sm_okb 120 q.1 q.2) = true := by decide +kernel
theorem gk_120 : gw_120.all (fun q => sm_okb 120 q.1 q.2) = true := sm_aa gk_120_0 (gk_120_1)
set_option maxRecDepth 100000 in
theorem gk_121 : gw_121.all (fun q => sm_okb 121 q.1 q.2) = true := by decide +kernel
set_option maxRecDepth 100000 in
theorem gk_122 : gw_122.all (fun q => sm_okb 122 q.1 q.2) = true := by decide +kernel
set_option maxRecDepth 100000 in
theorem gk_123 : gw_123.all (fun q => sm_okb 123 q.1 q.2) = true := by decide +kernel
set_option maxRecDepth 100000 in
theorem gk_124 : gw_124.all (fun q => sm_okb 124 q.1 q.2) = true := by decide +kernel
set_option maxRecDepth 100000 in
theorem gk_125 : gw_125.all (fun q => sm_okb 125 q.1 q.2) = true := by decide +kernel
set_option maxRecDepth 100000 in
theorem gk_126 : gw_126.all (fun q => sm_okb 126 q.1 q.2) = true := by decide +kernel
set_option maxRecDepth 100000 in
theorem gk_127 : gw_127.all (fun q => sm_okb 127 q.1 q.2) = true := by decide +kernel
set_option maxRecDepth 100000 in
theorem gk_128 : gw_128.all (fun q => sm_okb 128 q.1 q.2) = true := by decide +kernel
set_option maxRecDepth 100000 in
theorem gk_129 : gw_129.all (fun q => sm_okb 129 q.1 q.2) = true := by decide +kernel
set_option maxRecDepth 100000 in
theorem gk_130 : gw_130.all (fun q => sm_okb 130 q.1 q.2) = true := by decide +kernel
set_option maxRecDepth 100000 in
theorem gk_131 : gw_131.all (fun q => sm_okb 131 q.1 q.2) = true := by decide +kernel
set_option maxRecDepth 100000 in
theorem gk_132_0 : gw_132_0.all (fun q => sm_okb 132 q.1 q.2) = true := by decide +kernel
set_option maxRecDepth 100000 in
theorem gk_132_1 : gw_132_1.all (fun q => sm_okb 132 q.1 q.2) = true := by decide +kernel
theorem gk_132 : gw_132.all (fun q => sm_okb 132 q.1 q.2) = true := sm_aa gk_132_0 (gk_132_1)
set_option maxRecDepth 100000 in
theorem gk_133 : gw_133.all (fun q => sm_okb 133 q.1 q.2) = true := by decide +kernel
set_option maxRecDepth 100000 in
theorem gk_134 : gw_134.all (fun q => sm_okb 134 q.1 q.2) = true := by decide +kernel
set_option maxRecDepth 100000 in
theorem gk_135_0 : gw_135_0.all (fun q => sm_okb 135 q.1 q.2) = true := by decide +kernel
set_option maxRecDepth 100000 in
theorem gk_135_1 : gw_135_1.all (fun q => sm_okb 135 q.1 q.2) = true := by decide +kernel
theorem gk_135 : gw_135.all (fun q => sm_okb 135 q.1 q.2) = true := sm_aa gk_135_0 (gk_135_1)
set_option maxRecDepth 100000 in
theorem gk_136 : gw_136.all (fun q => sm_okb 136 q.1 q.2) = true := by decide +kernel
set_option maxRecDepth 100000 in
theorem gk_137 : gw_137.all (fun q => sm_okb 137 q.1 q.2) = true := by decide +kernel
set_option maxRecDepth 100000 in
theorem gk_138 : gw_138.all (fun q => sm_okb 138 q.1 q.2) = true := by decide +kernel
set_option maxRecDepth 100000 in
theorem gk_139 : gw_139.all (fun q => sm_okb 139 q.1 q.2) = true := by decide +kernel
set_option maxRecDepth 100000 in
theorem gk_140_0 : gw_140_0.all (fun q => sm_okb 140 q.1 q.2) = true := by decide +kernel
set_option maxRecDepth 100000 in
theorem gk_140_1 : gw_140_1.all (fun q => sm_okb 140 q.1 q.2) = true := by decide +kernel
theorem gk_140 : gw_140.all (fun q => sm_okb 140 q.1 q.2) = true := sm_aa gk_140_0 (gk_140_1)
set_option maxRecDepth 100000 in
theorem gk_141_0 : gw_141_0.all (fun q => sm_okb 141 q.1 q.2) = true := by decide +kernel
set_option maxRecDepth 100000 in
theorem gk_141_1 : gw_141_1.all (fun q => sm_okb 141 q.1 q.2) = true := by decide +kernel
theorem gk_141 : gw_141.all (fun q => sm_okb 141 q.1 q.2) = true := sm_aa gk_141_0 (gk_141_1)
set_option maxRecDepth 100000 in
theorem gk_142 : gw_142.all (fun q => sm_okb 142 q.1 q.2) = true := by decide +kernel
set_option maxRecDepth 100000 in
theorem gk_143_0 : gw_143_0.all (fun q => sm_okb 143 q.1 q.2) = true := by decide +kernel
set_option maxRecDepth 100000 in
theorem gk_143_1 : gw_143_1.all (fun q => sm_okb 143 q.1 q.2) = true := by decide +kernel
set_option maxRecDepth 100000 in
theorem gk_143_2 : gw_143_2.all (fun q => sm_okb 143 q.1 q.2) = true := by decide +kernel
theorem gk_143 : gw_143.all (fun q => sm_okb 143 q.1 q.2) = true := sm_aa gk_143_0 (sm_aa gk_143_1 (gk_143_2))
set_option maxRecDepth 100000 in
theorem gk_144_0 : gw_144_0.all (fun q => sm_okb 144 q.1 q.2) = true := by decide +kernel
set_option maxRecDepth 100000 in
theorem gk_144_1 : gw_144_1.all (fun q => sm_okb 144 q.1 q.2) = true := by decide +kernel
theorem gk_144 : gw_144.all (fun q => sm_okb 144 q.1 q.2) = true := sm_aa gk_144_0 (gk_144_1)
set_option maxRecDepth 100000 in
theorem gk_145 : gw_145.all (fun q => sm_okb 145 q.1 q.2) = true := by decide +kernel
set_option maxRecDepth 100000 in
theorem gk_146 : gw_146.all (fun q => sm_okb 146 q.1 q.2) = true := by decide +kernel
set_option maxRecDepth 100000 in
theorem gk_147 : gw_147.all (fun q => sm_okb 147 q.1 q.2) = true := by decide +kernel
set_option maxRecDepth 100000 in
theorem gk_148 : gw_148.all (fun q => sm_okb 148 q.1 q.2) = true := by decide +kernel
set_option maxRecDepth 100000 in
theorem gk_149 : gw_149.all (fun q => sm_okb 149 q.1 q.2) = true := by decide +kernel
set_option maxRecDepth 100000 in
theorem gk_150 : gw_150.all (fun q => sm_okb 150 q.1 q.2) = true := by decide +kernel
set_option maxRecDepth 100000 in
theorem gk_151 : gw_151.all (fun q => sm_okb 151 q.1 q.2) = true := by decide +kernel
set_option maxRecDepth 100000 in
theorem gk_152 : gw_152.all (fun q => sm_okb 152 q.1 q.2) = true := by decide +kernel
set_option maxRecDepth 100000 in
theorem gk_153_0 : gw_153_0.all (fun q => sm_okb 153 q.1 q.2) = true := by decide +kernel
set_option maxRecDepth 100000 in
theorem gk_153_1 : gw_153_1.all (fun q => sm_okb 153 q.1 q.2) = true := by decide +kernel
theorem gk_153 : gw_153.all (fun q => sm_okb 153 q.1 q.2) = true := sm_aa gk_153_0 (gk_153_1)
set_option maxRecDepth 100000 in
theorem gk_154_0 : gw_154_0.all (fun q => sm_okb 154 q.1 q.2) = true := by decide +kernel
set_option maxRecDepth 100000 in
theorem gk_154_1 : gw_154_1.all (fun q => sm_okb 154 q.1 q.2) = true := by decide +kernel
theorem gk_154 : gw_154.all (fun q => sm_okb 154 q.1 q.2) = true := sm_aa gk_154_0 (gk_154_1)
set_option maxRecDepth 100000 in
theorem gk_155_0 : gw_155_0.all (fun q => sm_okb 155 q.1 q.2) = true := by decide +kernel
set_option maxRecDepth 100000 in
theorem gk_155_1 : gw_155_1.all (fun q => sm_okb 155 q.1 q.2) = true := by decide +kernel
theorem gk_155 : gw_155.all (fun q => sm_okb 155 q.1 q.2) = true := sm_aa gk_155_0 (gk_155_1)
set_option maxRecDepth 100000 in
theorem gk_156 : gw_156.all (fun q => sm_okb 156 q.1 q.2) = true := by decide +kernel
set_option maxRecDepth 100000 in
theorem gk_157 : gw_157.all (fun q => sm_okb 157 q.1 q.2) = true := by decide +kernel
set_option maxRecDepth 100000 in
theorem gk_158 : gw_158.all (fun q => sm_okb 158 q.1 q.2) = true := by decide +kernel
set_option maxRecDepth 100000 in
theorem gk_159_0 : gw_159_0.all (fun q => sm_okb 159 q.1 q.2) = true := by decide +kernel
set_option maxRecDepth 100000 in
theorem gk_159_1 : gw_159_1.all (fun q => sm_okb 159 q.1 q.2) = true := by decide +kernel
theorem gk_159 : gw_159.all (fun q => sm_okb 159 q.1 q.2) = true := sm_aa gk_159_0 (gk_159_1)
set_option maxRecDepth 100000 in
theorem gk_160_0 : gw_160_0.all (fun q => sm_okb 160 q.1 q.2) = true := by decide +kernel
set_option maxRecDepth 100000 in
theorem gk_160_1 : gw_160_1.all (fun q => sm_okb 160 q.1 q.2) = true := by decide +kernel
theorem gk_160 : gw_160.all (fun q => sm_okb 160 q.1 q.2) = true := sm_aa gk_160_0 (gk_160_1)
set_option maxRecDepth 100000 in
theorem gk_161 : gw_161.all (fun q => sm_okb 161 q.1 q.2) = true := by decide +kernel
set_option maxRecDepth 100000 in
theorem gk_162 : gw_162.all (fun q => sm_okb 162 q.1 q.2) = true := by decide +kernel
set_option maxRecDepth 100000 in
theorem gk_163_0 : gw_163_0.all (fun q => sm_okb 163 q.1 q.2) = true := by decide +kernel
set_option maxRecDepth 100000 in
theorem gk_163_1 : gw_163_1.all (fun q => sm_okb 163 q.1 q.2) = true := by decide +kernel
theorem gk_163 : gw_163.all (fun q => sm_okb 163 q.1 q.2) = true := sm_aa gk_163_0 (gk_163_1)
set_option maxRecDepth 100000 in
theorem gk_164 : gw_164.all (fun q => sm_okb 164 q.1 q.2) = true := by decide +kernel
set_option maxRecDepth 100000 in
theorem gk_165_0 : gw_165_0.all (fun q => sm_okb 165 q.1 q.2) = true := by decide +kernel
set_option maxRecDepth 100000 in
theorem gk_165_1 : gw_165_1.all (fun q => sm_okb 165 q.1 q.2) = true := by decide +kernel
theorem gk_165 : gw_165.all (fun q => sm_okb 165 q.1 q.2) = true := sm_aa gk_165_0 (gk_165_1)
set_option maxRecDepth 100000 in
theorem gk_166 : gw_166.all (fun q => sm_okb 166 q.1 q.2) = true := by decide +kernel
set_option maxRecDepth 100000 in
theorem gk_167 : gw_167.all (fun q => sm_okb 167 q.1 q.2) = true := by decide +kernel
set_option maxRecDepth 100000 in
theorem gk_168 : gw_168.all (fun q => sm_okb 168 q.1 q.2) = true := by decide +kernel
set_option maxRecDepth 100000 in
theorem gk_169 : gw_169.all (fun q => sm_okb 169 q.1 q.2) = true := by decide +kernel
set_option maxRecDepth 100000 in
theorem gk_170 : gw_170.all (fun q => sm_okb 170 q.1 q.2) = true := by decide +kernel
set_option maxRecDepth 100000 in
theorem gk_171 : gw_171.all (fun q => sm_okb 171 q.1 q.2) = true := by decide +kernel
set_option maxRecDepth 100000 in
theorem gk_172 : gw_172.all (fun q => sm_okb 172 q.1 q.2) = true := by decide +kernel
set_option maxRecDepth 100000 in
theorem gk_173_0 : gw_173_0.all (fun q => sm_okb 173 q.1 q.2) = true := by decide +kernel
set_option maxRecDepth 100000 in
theorem gk_173_1 : gw_173_1.all (fun q => sm_okb 173 q.1 q.2) = true := by decide +kernel
theorem gk_173 : gw_173.all (fun q => sm_okb 173 q.1 q.2) = true := sm_aa gk_173_0 (gk_173_1)
set_option maxRecDepth 100000 in
theorem gk_174_0 : gw_174_0.all (fun q => sm_okb 174 q.1 q.2) = true := by decide +kernel
set_option maxRecDepth 100000 in
theorem gk_174_1 : gw_174_1.all (fun q => sm_okb 174 q.1 q.2) = true := by decide +kernel
set_option maxRecDepth 100000 in
theorem gk_174_2 : gw_174_2.all (fun q => sm_okb 174 q.1 q.2) = true := by decide +kernel
theorem gk_174 : gw_174.all (fun q => sm_okb 174 q.1 q.2) = true := sm_aa gk_174_0 (sm_aa gk_174_1 (gk_174_2))
set_option maxRecDepth 100000 in
theorem gk_175 : gw_175.all (fun q => sm_okb 175 q.1 q.2) = true := by decide +kernel
set_option maxRecDepth 100000 in
theorem gk_176_0 : gw_176_0.all (fun q => sm_okb 176 q.1 q.2) = true := by decide +kernel
set_option maxRecDepth 100000 in
theorem gk_176_1 : gw_176_1.all (fun q => sm_okb 176 q.1 q.2) = true := by decide +kernel
theorem gk_176 : gw_176.all (fun q => sm_okb 176 q.1 q.2) = true := sm_aa gk_176_0 (gk_176_1)
set_option maxRecDepth 100000 in
theorem gk_177 : gw_177.all (fun q => sm_okb 177 q.1 q.2) = true := by decide +kernel
set_option maxRecDepth 100000 in
theorem gk_178_0 : gw_178_0.all (fun q => sm_okb 178 q.1 q.2) = true := by decide +kernel
set_option maxRecDepth 100000 in
theorem gk_178_1 : gw_178_1.all (fun q => sm_okb 178 q.1 q.2) = true := by decide +kernel
set_option maxRecDepth 100000 in
theorem gk_178_2 : gw_178_2.all (fun q => sm_okb 178 q.1 q.2) = true := by decide +kernel
theorem gk_178 : gw_178.all (fun q => sm_okb 178 q.1 q.2) = true := sm_aa gk_178_0 (sm_aa gk_178_1 (gk_178_2))
set_option maxRecDepth 100000 in
theorem gk_179 : gw_179.all (fun q => sm_okb 179 q.1 q.2) = true := by decide +kernel
set_option maxRecDepth 100000 in
theorem gk_180_0 : gw_180_0.all (fun q => sm_okb 180 q.1 q.2) = true := by decide +kernel
set_option maxRecDepth 100000 in
theorem gk_180_1 : gw_180_1.all (fun q => sm_okb 180 q.1 q.2) = true := by decide +kernel
theorem gk_180 : gw_180.all (fun q => sm_okb 180 q.1 q.2) = true := sm_aa gk_180_0 (gk_180_1)
set_option maxRecDepth 100000 in
theorem gk_181 : gw_181.all (fun q => sm_okb 181 q.1 q.2) = true := by decide +kernel
set_option maxRecDepth 100000 in
theorem gk_182 : gw_182.all (fun q => sm_okb 182 q.1 q.2) = true := by decide +kernel
set_option maxRecDepth 100000 in
theorem gk_183 : gw_183.all (fun q => sm_okb 183 q.1 q.2) = true := by decide +kernel
set_option maxRecDepth 100000 in
theorem gk_184 : gw_184.all (fun q => sm_okb 184 q.1 q.2) = true := by decide +kernel
set_option maxRecDepth 100000 in
theorem gk_185_0 : gw_185_0.all (fun q => sm_okb 185 q.1 q.2) = true := by decide +kernel
set_option maxRecDepth 100000 in
theorem gk_185_1 : gw_185_1.all (fun q => sm_okb 185 q.1 q.2) = true := by decide +kernel
set_option maxRecDepth 100000 in
theorem gk_185_2 : gw_185_2.all (fun q => sm_okb 185 q.1 q.2) = true := by decide +kernel
set_option maxRecDepth 100000 in
theorem gk_185_3 : gw_185_3.all (fun q => sm_okb 185 q.1 q.2) = true := by decide +kernel
set_option maxRecDepth 100000 in
theorem gk_185_4 : gw_185_4.all (fun q => sm_okb 185 q.1 q.2) = true := by decide +kernel
theorem gk_185 : gw_185.all (fun q => sm_okb 185 q.1 q.2) = true := sm_aa gk_185_0 (sm_aa gk_185_1 (sm_aa gk_185_2 (sm_aa gk_185_3 (gk_185_4))))

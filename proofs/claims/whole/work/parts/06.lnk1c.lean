set_option maxRecDepth 100000 in
theorem jmc_120 : lw_tbl[283]? = some (.code (jY 120) (jC 120) (jM 120) (jR 120)) := rfl
theorem jm_120 : jmOK 120 = true := by decide +kernel
set_option maxRecDepth 100000 in
theorem jmc_121 : lw_tbl[1386]? = some (.code (jY 121) (jC 121) (jM 121) (jR 121)) := rfl
theorem jm_121 : jmOK 121 = true := by decide +kernel
set_option maxRecDepth 100000 in
theorem jmc_122 : lw_tbl[1391]? = some (.code (jY 122) (jC 122) (jM 122) (jR 122)) := rfl
theorem jm_122 : jmOK 122 = true := by decide +kernel
set_option maxRecDepth 100000 in
theorem jmc_123 : lw_tbl[1394]? = some (.code (jY 123) (jC 123) (jM 123) (jR 123)) := rfl
theorem jm_123 : jmOK 123 = true := by decide +kernel
set_option maxRecDepth 100000 in
theorem jmc_124 : lw_tbl[1397]? = some (.code (jY 124) (jC 124) (jM 124) (jR 124)) := rfl
theorem jm_124 : jmOK 124 = true := by decide +kernel
set_option maxRecDepth 100000 in
theorem jmc_125 : lw_tbl[1403]? = some (.code (jY 125) (jC 125) (jM 125) (jR 125)) := rfl
theorem jm_125 : jmOK 125 = true := by decide +kernel
set_option maxRecDepth 100000 in
theorem jmc_126 : lw_tbl[1407]? = some (.code (jY 126) (jC 126) (jM 126) (jR 126)) := rfl
theorem jm_126 : jmOK 126 = true := by decide +kernel
set_option maxRecDepth 100000 in
theorem jmc_127 : lw_tbl[1415]? = some (.code (jY 127) (jC 127) (jM 127) (jR 127)) := rfl
theorem jm_127 : jmOK 127 = true := by decide +kernel
set_option maxRecDepth 100000 in
theorem jmc_128 : lw_tbl[1425]? = some (.code (jY 128) (jC 128) (jM 128) (jR 128)) := rfl
theorem jm_128 : jmOK 128 = true := by decide +kernel
set_option maxRecDepth 100000 in
theorem jmc_129 : lw_tbl[1430]? = some (.code (jY 129) (jC 129) (jM 129) (jR 129)) := rfl
theorem jm_129 : jmOK 129 = true := by decide +kernel
set_option maxRecDepth 100000 in
theorem jmc_130 : lw_tbl[1108]? = some (.code (jY 130) (jC 130) (jM 130) (jR 130)) := rfl
theorem jm_130 : jmOK 130 = true := by decide +kernel
set_option maxRecDepth 100000 in
theorem jmc_131 : lw_tbl[1113]? = some (.code (jY 131) (jC 131) (jM 131) (jR 131)) := rfl
theorem jm_131 : jmOK 131 = true := by decide +kernel
set_option maxRecDepth 100000 in
theorem jmc_132 : lw_tbl[187]? = some (.code (jY 132) (jC 132) (jM 132) (jR 132)) := rfl
theorem jm_132 : jmOK 132 = true := by decide +kernel
set_option maxRecDepth 100000 in
theorem jmc_133 : lw_tbl[707]? = some (.code (jY 133) (jC 133) (jM 133) (jR 133)) := rfl
theorem jm_133 : jmOK 133 = true := by decide +kernel
set_option maxRecDepth 100000 in
theorem jmc_134 : lw_tbl[715]? = some (.code (jY 134) (jC 134) (jM 134) (jR 134)) := rfl
theorem jm_134 : jmOK 134 = true := by decide +kernel
set_option maxRecDepth 100000 in
theorem jmc_135 : lw_tbl[723]? = some (.code (jY 135) (jC 135) (jM 135) (jR 135)) := rfl
theorem jm_135 : jmOK 135 = true := by decide +kernel
set_option maxRecDepth 100000 in
theorem jmc_136 : lw_tbl[734]? = some (.code (jY 136) (jC 136) (jM 136) (jR 136)) := rfl
theorem jm_136 : jmOK 136 = true := by decide +kernel
set_option maxRecDepth 100000 in
theorem jmc_137 : lw_tbl[738]? = some (.code (jY 137) (jC 137) (jM 137) (jR 137)) := rfl
theorem jm_137 : jmOK 137 = true := by decide +kernel
set_option maxRecDepth 100000 in
theorem jmc_138 : lw_tbl[754]? = some (.code (jY 138) (jC 138) (jM 138) (jR 138)) := rfl
theorem jm_138 : jmOK 138 = true := by decide +kernel
set_option maxRecDepth 100000 in
theorem jmc_139 : lw_tbl[758]? = some (.code (jY 139) (jC 139) (jM 139) (jR 139)) := rfl
theorem jm_139 : jmOK 139 = true := by decide +kernel
set_option maxRecDepth 100000 in
theorem jmc_140 : lw_tbl[766]? = some (.code (jY 140) (jC 140) (jM 140) (jR 140)) := rfl
theorem jm_140 : jmOK 140 = true := by decide +kernel
set_option maxRecDepth 100000 in
theorem jmc_141 : lw_tbl[770]? = some (.code (jY 141) (jC 141) (jM 141) (jR 141)) := rfl
theorem jm_141 : jmOK 141 = true := by decide +kernel
set_option maxRecDepth 100000 in
theorem jmc_142 : lw_tbl[798]? = some (.code (jY 142) (jC 142) (jM 142) (jR 142)) := rfl
theorem jm_142 : jmOK 142 = true := by decide +kernel
set_option maxRecDepth 100000 in
theorem jmc_143 : lw_tbl[802]? = some (.code (jY 143) (jC 143) (jM 143) (jR 143)) := rfl
theorem jm_143 : jmOK 143 = true := by decide +kernel
set_option maxRecDepth 100000 in
theorem jmc_144 : lw_tbl[810]? = some (.code (jY 144) (jC 144) (jM 144) (jR 144)) := rfl
theorem jm_144 : jmOK 144 = true := by decide +kernel
set_option maxRecDepth 100000 in
theorem jmc_145 : lw_tbl[1053]? = some (.code (jY 145) (jC 145) (jM 145) (jR 145)) := rfl
theorem jm_145 : jmOK 145 = true := by decide +kernel
set_option maxRecDepth 100000 in
theorem jmc_146 : lw_tbl[1057]? = some (.code (jY 146) (jC 146) (jM 146) (jR 146)) := rfl
theorem jm_146 : jmOK 146 = true := by decide +kernel
set_option maxRecDepth 100000 in
theorem jmc_147 : lw_tbl[1061]? = some (.code (jY 147) (jC 147) (jM 147) (jR 147)) := rfl
theorem jm_147 : jmOK 147 = true := by decide +kernel
set_option maxRecDepth 100000 in
theorem jmc_148 : lw_tbl[1072]? = some (.code (jY 148) (jC 148) (jM 148) (jR 148)) := rfl
theorem jm_148 : jmOK 148 = true := by decide +kernel
set_option maxRecDepth 100000 in
theorem jmc_149 : lw_tbl[1084]? = some (.code (jY 149) (jC 149) (jM 149) (jR 149)) := rfl
theorem jm_149 : jmOK 149 = true := by decide +kernel
set_option maxRecDepth 100000 in
theorem jmc_150 : lw_tbl[1092]? = some (.code (jY 150) (jC 150) (jM 150) (jR 150)) := rfl
theorem jm_150 : jmOK 150 = true := by decide +kernel
set_option maxRecDepth 100000 in
theorem jmc_151 : lw_tbl[1100]? = some (.code (jY 151) (jC 151) (jM 151) (jR 151)) := rfl
theorem jm_151 : jmOK 151 = true := by decide +kernel
set_option maxRecDepth 100000 in
theorem jmc_152 : lw_tbl[1174]? = some (.code (jY 152) (jC 152) (jM 152) (jR 152)) := rfl
theorem jm_152 : jmOK 152 = true := by decide +kernel
set_option maxRecDepth 100000 in
theorem jmc_153 : lw_tbl[1247]? = some (.code (jY 153) (jC 153) (jM 153) (jR 153)) := rfl
theorem jm_153 : jmOK 153 = true := by decide +kernel
set_option maxRecDepth 100000 in
theorem jmc_154 : lw_tbl[1259]? = some (.code (jY 154) (jC 154) (jM 154) (jR 154)) := rfl
theorem jm_154 : jmOK 154 = true := by decide +kernel
set_option maxRecDepth 100000 in
theorem jmc_155 : lw_tbl[1277]? = some (.code (jY 155) (jC 155) (jM 155) (jR 155)) := rfl
theorem jm_155 : jmOK 155 = true := by decide +kernel
set_option maxRecDepth 100000 in
theorem jmc_156 : lw_tbl[1281]? = some (.code (jY 156) (jC 156) (jM 156) (jR 156)) := rfl
theorem jm_156 : jmOK 156 = true := by decide +kernel
set_option maxRecDepth 100000 in
theorem jmc_157 : lw_tbl[1285]? = some (.code (jY 157) (jC 157) (jM 157) (jR 157)) := rfl
theorem jm_157 : jmOK 157 = true := by decide +kernel
set_option maxRecDepth 100000 in
theorem jmc_158 : lw_tbl[1344]? = some (.code (jY 158) (jC 158) (jM 158) (jR 158)) := rfl
theorem jm_158 : jmOK 158 = true := by decide +kernel
set_option maxRecDepth 100000 in
theorem jmc_159 : lw_tbl[1353]? = some (.code (jY 159) (jC 159) (jM 159) (jR 159)) := rfl
theorem jm_159 : jmOK 159 = true := by decide +kernel
set_option maxRecDepth 100000 in
theorem jmc_160 : lw_tbl[1357]? = some (.code (jY 160) (jC 160) (jM 160) (jR 160)) := rfl
theorem jm_160 : jmOK 160 = true := by decide +kernel
set_option maxRecDepth 100000 in
theorem jmc_161 : lw_tbl[1361]? = some (.code (jY 161) (jC 161) (jM 161) (jR 161)) := rfl
theorem jm_161 : jmOK 161 = true := by decide +kernel
set_option maxRecDepth 100000 in
theorem jmc_162 : lw_tbl[1366]? = some (.code (jY 162) (jC 162) (jM 162) (jR 162)) := rfl
theorem jm_162 : jmOK 162 = true := by decide +kernel
set_option maxRecDepth 100000 in
theorem jmc_163 : lw_tbl[1370]? = some (.code (jY 163) (jC 163) (jM 163) (jR 163)) := rfl
theorem jm_163 : jmOK 163 = true := by decide +kernel
set_option maxRecDepth 100000 in
theorem jmc_164 : lw_tbl[1374]? = some (.code (jY 164) (jC 164) (jM 164) (jR 164)) := rfl
theorem jm_164 : jmOK 164 = true := by decide +kernel
set_option maxRecDepth 100000 in
theorem jmc_165 : lw_tbl[1378]? = some (.code (jY 165) (jC 165) (jM 165) (jR 165)) := rfl
theorem jm_165 : jmOK 165 = true := by decide +kernel
set_option maxRecDepth 100000 in
theorem jmc_166 : lw_tbl[1382]? = some (.code (jY 166) (jC 166) (jM 166) (jR 166)) := rfl
theorem jm_166 : jmOK 166 = true := by decide +kernel
set_option maxRecDepth 100000 in
theorem jmc_167 : lw_tbl[1411]? = some (.code (jY 167) (jC 167) (jM 167) (jR 167)) := rfl
theorem jm_167 : jmOK 167 = true := by decide +kernel
set_option maxRecDepth 100000 in
theorem jmc_168 : lw_tbl[1421]? = some (.code (jY 168) (jC 168) (jM 168) (jR 168)) := rfl
theorem jm_168 : jmOK 168 = true := by decide +kernel
set_option maxRecDepth 100000 in
theorem jmc_169 : lw_tbl[1434]? = some (.code (jY 169) (jC 169) (jM 169) (jR 169)) := rfl
theorem jm_169 : jmOK 169 = true := by decide +kernel
set_option maxRecDepth 100000 in
theorem jmc_170 : lw_tbl[1438]? = some (.code (jY 170) (jC 170) (jM 170) (jR 170)) := rfl
theorem jm_170 : jmOK 170 = true := by decide +kernel
set_option maxRecDepth 100000 in
theorem jmc_171 : lw_tbl[1442]? = some (.code (jY 171) (jC 171) (jM 171) (jR 171)) := rfl
theorem jm_171 : jmOK 171 = true := by decide +kernel
set_option maxRecDepth 100000 in
theorem jmc_172 : lw_tbl[1448]? = some (.code (jY 172) (jC 172) (jM 172) (jR 172)) := rfl
theorem jm_172 : jmOK 172 = true := by decide +kernel
set_option maxRecDepth 100000 in
theorem jmc_173 : lw_tbl[1456]? = some (.code (jY 173) (jC 173) (jM 173) (jR 173)) := rfl
theorem jm_173 : jmOK 173 = true := by decide +kernel
set_option maxRecDepth 100000 in
theorem jmc_174 : lw_tbl[1460]? = some (.code (jY 174) (jC 174) (jM 174) (jR 174)) := rfl
theorem jm_174 : jmOK 174 = true := by decide +kernel
set_option maxRecDepth 100000 in
theorem jmc_175 : lw_tbl[1464]? = some (.code (jY 175) (jC 175) (jM 175) (jR 175)) := rfl
theorem jm_175 : jmOK 175 = true := by decide +kernel
set_option maxRecDepth 100000 in
theorem jmc_176 : lw_tbl[1468]? = some (.code (jY 176) (jC 176) (jM 176) (jR 176)) := rfl
theorem jm_176 : jmOK 176 = true := by decide +kernel
set_option maxRecDepth 100000 in
theorem jmc_177 : lw_tbl[1472]? = some (.code (jY 177) (jC 177) (jM 177) (jR 177)) := rfl
theorem jm_177 : jmOK 177 = true := by decide +kernel
set_option maxRecDepth 100000 in
theorem jmc_178 : lw_tbl[1476]? = some (.code (jY 178) (jC 178) (jM 178) (jR 178)) := rfl
theorem jm_178 : jmOK 178 = true := by decide +kernel
set_option maxRecDepth 100000 in
theorem jmc_179 : lw_tbl[1495]? = some (.code (jY 179) (jC 179) (jM 179) (jR 179)) := rfl
theorem jm_179 : jmOK 179 = true := by decide +kernel

/-! EVERY INSTRUCTION IS WHAT THE CLASS FILES SAY (by program) -/
set_option maxRecDepth 100000 in
theorem ck125 : aOKgm 125 0 aC125 = true := by decide +kernel
set_option maxRecDepth 100000 in
theorem ck126 : aOKgm 126 0 aC126 = true := by decide +kernel
set_option maxRecDepth 100000 in
theorem ck127 : aOKgm 127 0 aC127 = true := by decide +kernel
set_option maxRecDepth 100000 in
theorem ck128 : aOKgm 128 0 aC128 = true := by decide +kernel
set_option maxRecDepth 100000 in
theorem ck129 : aOKgm 129 0 aC129 = true := by decide +kernel
set_option maxRecDepth 100000 in
theorem ck130 : aOKgm 130 0 aC130 = true := by decide +kernel
set_option maxRecDepth 100000 in
theorem ck131 : aOKgm 131 0 aC131 = true := by decide +kernel
set_option maxRecDepth 100000 in
theorem ck132 : aOKgm 132 0 aC132 = true := by decide +kernel
set_option maxRecDepth 100000 in
theorem ck133 : aOKgm 133 0 aC133 = true := by decide +kernel
set_option maxRecDepth 100000 in
theorem ck134 : aOKgm 134 0 aC134 = true := by decide +kernel
set_option maxRecDepth 100000 in
theorem ck135 : aOKgm 135 0 aC135 = true := by decide +kernel
set_option maxRecDepth 100000 in
theorem ck136 : aOKgm 136 0 aC136 = true := by decide +kernel
set_option maxRecDepth 100000 in
theorem ck137 : aOKgm 137 0 aC137 = true := by decide +kernel
set_option maxRecDepth 100000 in
theorem ck138 : aOKgm 138 0 aC138 = true := by decide +kernel
set_option maxRecDepth 100000 in
theorem ck139 : aOKgm 139 0 aC139 = true := by decide +kernel
set_option maxRecDepth 100000 in
theorem ck140 : aOKgm 140 0 aC140 = true := by decide +kernel
set_option maxRecDepth 100000 in
theorem ck141 : aOKgm 141 0 aC141 = true := by decide +kernel
set_option maxRecDepth 100000 in
theorem ck142 : aOKgm 142 0 aC142 = true := by decide +kernel
set_option maxRecDepth 100000 in
theorem ck143 : aOKgm 143 0 aC143 = true := by decide +kernel
set_option maxRecDepth 100000 in
theorem ck144 : aOKgm 144 0 aC144 = true := by decide +kernel
set_option maxRecDepth 100000 in
theorem ck145 : aOKgm 145 0 aC145 = true := by decide +kernel
set_option maxRecDepth 100000 in
theorem ck146 : aOKgm 146 0 aC146 = true := by decide +kernel
set_option maxRecDepth 100000 in
theorem ck147 : aOKgm 147 0 aC147 = true := by decide +kernel
set_option maxRecDepth 100000 in
theorem ck148 : aOKgm 148 0 aC148 = true := by decide +kernel
set_option maxRecDepth 100000 in
theorem ck149 : aOKgm 149 0 aC149 = true := by decide +kernel
set_option maxRecDepth 100000 in
theorem ck150 : aOKgm 150 0 aC150 = true := by decide +kernel
set_option maxRecDepth 100000 in
theorem ck151 : aOKgm 151 0 aC151 = true := by decide +kernel
set_option maxRecDepth 100000 in
theorem ck152 : aOKgm 152 0 aC152 = true := by decide +kernel
set_option maxRecDepth 100000 in
theorem ck153 : aOKgm 153 0 aC153 = true := by decide +kernel
set_option maxRecDepth 100000 in
theorem ck154 : aOKgm 154 0 aC154 = true := by decide +kernel
set_option maxRecDepth 100000 in
theorem ck155 : aOKgm 155 0 aC155 = true := by decide +kernel
set_option maxRecDepth 100000 in
theorem ck156 : aOKgm 156 0 aC156 = true := by decide +kernel
set_option maxRecDepth 100000 in
theorem ck157 : aOKgm 157 0 aC157 = true := by decide +kernel
set_option maxRecDepth 100000 in
theorem ck158 : aOKgm 158 0 aC158 = true := by decide +kernel
set_option maxRecDepth 100000 in
theorem ck159 : aOKgm 159 0 aC159 = true := by decide +kernel
set_option maxRecDepth 100000 in
theorem ck160 : aOKgm 160 0 aC160 = true := by decide +kernel
set_option maxRecDepth 100000 in
theorem ck161 : aOKgm 161 0 aC161 = true := by decide +kernel
set_option maxRecDepth 100000 in
theorem ck162 : aOKgm 162 0 aC162 = true := by decide +kernel
set_option maxRecDepth 100000 in
theorem ck163 : aOKgm 163 0 aC163 = true := by decide +kernel
set_option maxRecDepth 100000 in
theorem ck164 : aOKgm 164 0 aC164 = true := by decide +kernel
set_option maxRecDepth 100000 in
theorem ck165 : aOKgm 165 0 aC165 = true := by decide +kernel
set_option maxRecDepth 100000 in
theorem ck166 : aOKgm 166 0 aC166 = true := by decide +kernel
set_option maxRecDepth 100000 in
theorem ck167 : aOKgm 167 0 aC167 = true := by decide +kernel
set_option maxRecDepth 100000 in
theorem ck168 : aOKgm 168 0 aC168 = true := by decide +kernel
set_option maxRecDepth 100000 in
theorem ck169 : aOKgm 169 0 aC169 = true := by decide +kernel
set_option maxRecDepth 100000 in
theorem ck170 : aOKgm 170 0 aC170 = true := by decide +kernel
set_option maxRecDepth 100000 in
theorem ck171 : aOKgm 171 0 aC171 = true := by decide +kernel
set_option maxRecDepth 100000 in
theorem ck172 : aOKgm 172 0 aC172 = true := by decide +kernel
set_option maxRecDepth 100000 in
theorem ck173 : aOKgm 173 0 aC173 = true := by decide +kernel
set_option maxRecDepth 100000 in
theorem ck174 : aOKgm 174 0 aC174 = true := by decide +kernel
set_option maxRecDepth 100000 in
theorem ck175 : aOKgm 175 0 aC175 = true := by decide +kernel
set_option maxRecDepth 100000 in
theorem ck176 : aOKgm 176 0 aC176 = true := by decide +kernel
set_option maxRecDepth 100000 in
theorem ck177 : aOKgm 177 0 aC177 = true := by decide +kernel
set_option maxRecDepth 100000 in
theorem ck178 : aOKgm 178 0 aC178 = true := by decide +kernel
set_option maxRecDepth 100000 in
theorem ck179 : aOKgm 179 0 aC179 = true := by decide +kernel
set_option maxRecDepth 100000 in
theorem ck180 : aOKgm 180 0 aC180 = true := by decide +kernel
set_option maxRecDepth 100000 in
theorem ck181 : aOKgm 181 0 aC181 = true := by decide +kernel
set_option maxRecDepth 100000 in
theorem ck182 : aOKgm 182 0 aC182 = true := by decide +kernel
set_option maxRecDepth 100000 in
theorem ck183 : aOKgm 183 0 aC183 = true := by decide +kernel
set_option maxRecDepth 100000 in
theorem ck184 : aOKgm 184 0 aC184 = true := by decide +kernel
set_option maxRecDepth 100000 in
theorem ck185 : aOKgm 185 0 aC185 = true := by decide +kernel
set_option maxRecDepth 100000 in
theorem ck186 : aOKgm 186 0 aC186 = true := by decide +kernel
set_option maxRecDepth 100000 in
theorem ck187 : aOKgm 187 0 aC187 = true := by decide +kernel
set_option maxRecDepth 100000 in
theorem ck188 : aOKgm 188 0 aC188 = true := by decide +kernel
set_option maxRecDepth 100000 in
theorem ck189 : aOKgm 189 0 aC189 = true := by decide +kernel
set_option maxRecDepth 100000 in
theorem ck190 : aOKgm 190 0 aC190 = true := by decide +kernel
set_option maxRecDepth 100000 in
theorem ck191 : aOKgm 191 0 aC191 = true := by decide +kernel
set_option maxRecDepth 100000 in
theorem ck192 : aOKgm 192 0 aC192 = true := by decide +kernel
set_option maxRecDepth 100000 in
theorem ck193 : aOKgm 193 0 aC193 = true := by decide +kernel
set_option maxRecDepth 100000 in
theorem ck194 : aOKgm 194 0 aC194 = true := by decide +kernel
set_option maxRecDepth 100000 in
theorem ck195 : aOKgm 195 0 aC195 = true := by decide +kernel
set_option maxRecDepth 100000 in
theorem ck196 : aOKgm 196 0 aC196 = true := by decide +kernel
set_option maxRecDepth 100000 in
theorem ck197 : aOKgm 197 0 aC197 = true := by decide +kernel
set_option maxRecDepth 100000 in
theorem ck198 : aOKgm 198 0 aC198 = true := by decide +kernel
set_option maxRecDepth 100000 in
theorem ck199 : aOKgm 199 0 aC199 = true := by decide +kernel
set_option maxRecDepth 100000 in
theorem ck200 : aOKgm 200 0 aC200 = true := by decide +kernel
set_option maxRecDepth 100000 in
theorem ck201 : aOKgm 201 0 aC201 = true := by decide +kernel
set_option maxRecDepth 100000 in
theorem ck202 : aOKgm 202 0 aC202 = true := by decide +kernel
set_option maxRecDepth 100000 in
theorem ck203 : aOKgm 203 0 aC203 = true := by decide +kernel
set_option maxRecDepth 100000 in
theorem ck204 : aOKgm 204 0 aC204 = true := by decide +kernel
set_option maxRecDepth 100000 in
theorem ck205 : aOKgm 205 0 aC205 = true := by decide +kernel
set_option maxRecDepth 100000 in
theorem ck206 : aOKgm 206 0 aC206 = true := by decide +kernel
set_option maxRecDepth 100000 in
theorem ck207 : aOKgm 207 0 aC207 = true := by decide +kernel
set_option maxRecDepth 100000 in
theorem ck208 : aOKgm 208 0 aC208 = true := by decide +kernel
set_option maxRecDepth 100000 in
theorem ck209 : aOKgm 209 0 aC209 = true := by decide +kernel
set_option maxRecDepth 100000 in
theorem ck210 : aOKgm 210 0 aC210 = true := by decide +kernel
set_option maxRecDepth 100000 in
theorem ck211 : aOKgm 211 0 aC211 = true := by decide +kernel
set_option maxRecDepth 100000 in
theorem ck212 : aOKgm 212 0 aC212 = true := by decide +kernel
set_option maxRecDepth 100000 in
theorem ck213 : aOKgm 213 0 aC213 = true := by decide +kernel
set_option maxRecDepth 100000 in
theorem ck214 : aOKgm 214 0 aC214 = true := by decide +kernel
set_option maxRecDepth 100000 in
theorem ck215 : aOKgm 215 0 aC215 = true := by decide +kernel
set_option maxRecDepth 100000 in
theorem ck216 : aOKgm 216 0 aC216 = true := by decide +kernel
set_option maxRecDepth 100000 in
theorem ck217 : aOKgm 217 0 aC217 = true := by decide +kernel
set_option maxRecDepth 100000 in
theorem ck218 : aOKgm 218 0 aC218 = true := by decide +kernel
set_option maxRecDepth 100000 in
theorem ck219 : aOKgm 219 0 aC219 = true := by decide +kernel
set_option maxRecDepth 100000 in
theorem ck220 : aOKgm 220 0 aC220 = true := by decide +kernel
set_option maxRecDepth 100000 in
theorem ck221 : aOKgm 221 0 aC221 = true := by decide +kernel
set_option maxRecDepth 100000 in
theorem ck222 : aOKgm 222 0 aC222 = true := by decide +kernel
set_option maxRecDepth 100000 in
theorem ck223 : aOKgm 223 0 aC223 = true := by decide +kernel

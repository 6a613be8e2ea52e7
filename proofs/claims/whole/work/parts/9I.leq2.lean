theorem cb7 : (Int8.ofInt 7).toInt32 = 7 := by decide +kernel
theorem c13_13 : cal 13 13 = some 118 := by decide +kernel
theorem mf118 : mKd 118 = 0 ∧ mNp 118 = 0 ∧ mMx 118 = 1 ∧ mOw 118 = 11 := by decide +kernel
theorem c13_17 : cal 13 17 = some 177 := by decide +kernel
theorem mf177 : mKd 177 = 0 ∧ mNp 177 = 0 ∧ mMx 177 = 1 ∧ mOw 177 = 12 := by decide +kernel
theorem c13_18 : cal 13 18 = some 119 := by decide +kernel
theorem mf119 : mKd 119 = 0 ∧ mNp 119 = 3 ∧ mMx 119 = 4 ∧ mOw 119 = 11 := by decide +kernel
theorem c13_22 : cal 13 22 = some 198 := by decide +kernel
theorem mf198 : mKd 198 = 0 ∧ mNp 198 = 3 ∧ mMx 198 = 4 ∧ mOw 198 = 12 := by decide +kernel
theorem c13_23 : cal 13 23 = some 120 := by decide +kernel
theorem mf120 : mKd 120 = 0 ∧ mNp 120 = 4 ∧ mMx 120 = 5 ∧ mOw 120 = 11 := by decide +kernel
theorem c13_27 : cal 13 27 = some 202 := by decide +kernel
theorem mf202 : mKd 202 = 0 ∧ mNp 202 = 4 ∧ mMx 202 = 5 ∧ mOw 202 = 12 := by decide +kernel
theorem c13_28 : cal 13 28 = some 121 := by decide +kernel
theorem mf121 : mKd 121 = 0 ∧ mNp 121 = 1 ∧ mMx 121 = 2 ∧ mOw 121 = 11 := by decide +kernel
theorem c13_32 : cal 13 32 = some 203 := by decide +kernel
theorem mf203 : mKd 203 = 0 ∧ mNp 203 = 1 ∧ mMx 203 = 3 ∧ mOw 203 = 12 := by decide +kernel
theorem c13_33 : cal 13 33 = some 122 := by decide +kernel
theorem mf122 : mKd 122 = 0 ∧ mNp 122 = 2 ∧ mMx 122 = 4 ∧ mOw 122 = 11 := by decide +kernel
theorem c13_37 : cal 13 37 = some 204 := by decide +kernel
theorem mf204 : mKd 204 = 0 ∧ mNp 204 = 2 ∧ mMx 204 = 4 ∧ mOw 204 = 12 := by decide +kernel
theorem c13_38 : cal 13 38 = some 123 := by decide +kernel
theorem mf123 : mKd 123 = 0 ∧ mNp 123 = 1 ∧ mMx 123 = 3 ∧ mOw 123 = 11 := by decide +kernel
theorem c13_41 : cal 13 41 = some 205 := by decide +kernel
theorem mf205 : mKd 205 = 0 ∧ mNp 205 = 1 ∧ mMx 205 = 3 ∧ mOw 205 = 12 := by decide +kernel
theorem c13_42 : cal 13 42 = some 124 := by decide +kernel
theorem mf124 : mKd 124 = 0 ∧ mNp 124 = 4 ∧ mMx 124 = 5 ∧ mOw 124 = 11 := by decide +kernel
theorem c13_45 : cal 13 45 = some 206 := by decide +kernel
theorem mf206 : mKd 206 = 0 ∧ mNp 206 = 4 ∧ mMx 206 = 5 ∧ mOw 206 = 12 := by decide +kernel
theorem c13_46 : cal 13 46 = some 125 := by decide +kernel
theorem mf125 : mKd 125 = 0 ∧ mNp 125 = 1 ∧ mMx 125 = 2 ∧ mOw 125 = 11 := by decide +kernel
theorem c13_49 : cal 13 49 = some 238 := by decide +kernel
theorem mf238 : mKd 238 = 0 ∧ mNp 238 = 1 ∧ mMx 238 = 2 ∧ mOw 238 = 12 := by decide +kernel
theorem c13_50 : cal 13 50 = some 126 := by decide +kernel
theorem mf126 : mKd 126 = 0 ∧ mNp 126 = 2 ∧ mMx 126 = 3 ∧ mOw 126 = 11 := by decide +kernel
theorem c13_53 : cal 13 53 = some 240 := by decide +kernel
theorem mf240 : mKd 240 = 0 ∧ mNp 240 = 2 ∧ mMx 240 = 3 ∧ mOw 240 = 12 := by decide +kernel
theorem c13_54 : cal 13 54 = some 127 := by decide +kernel
theorem mf127 : mKd 127 = 0 ∧ mNp 127 = 2 ∧ mMx 127 = 3 ∧ mOw 127 = 11 := by decide +kernel
theorem c13_57 : cal 13 57 = some 241 := by decide +kernel
theorem mf241 : mKd 241 = 0 ∧ mNp 241 = 2 ∧ mMx 241 = 5 ∧ mOw 241 = 12 := by decide +kernel
theorem c13_58 : cal 13 58 = some 128 := by decide +kernel
theorem mf128 : mKd 128 = 0 ∧ mNp 128 = 2 ∧ mMx 128 = 3 ∧ mOw 128 = 11 := by decide +kernel
theorem c13_61 : cal 13 61 = some 242 := by decide +kernel
theorem mf242 : mKd 242 = 0 ∧ mNp 242 = 2 ∧ mMx 242 = 3 ∧ mOw 242 = 12 := by decide +kernel
theorem c13_62 : cal 13 62 = some 129 := by decide +kernel
theorem mf129 : mKd 129 = 0 ∧ mNp 129 = 2 ∧ mMx 129 = 3 ∧ mOw 129 = 11 := by decide +kernel
theorem c13_65 : cal 13 65 = some 243 := by decide +kernel
theorem mf243 : mKd 243 = 0 ∧ mNp 243 = 2 ∧ mMx 243 = 5 ∧ mOw 243 = 12 := by decide +kernel
theorem c13_66 : cal 13 66 = some 130 := by decide +kernel
theorem mf130 : mKd 130 = 0 ∧ mNp 130 = 2 ∧ mMx 130 = 3 ∧ mOw 130 = 11 := by decide +kernel
theorem c13_70 : cal 13 70 = some 244 := by decide +kernel
theorem mf244 : mKd 244 = 0 ∧ mNp 244 = 2 ∧ mMx 244 = 3 ∧ mOw 244 = 12 := by decide +kernel
theorem c13_71 : cal 13 71 = some 131 := by decide +kernel
theorem mf131 : mKd 131 = 0 ∧ mNp 131 = 2 ∧ mMx 131 = 3 ∧ mOw 131 = 11 := by decide +kernel
theorem c13_74 : cal 13 74 = some 246 := by decide +kernel
theorem mf246 : mKd 246 = 0 ∧ mNp 246 = 2 ∧ mMx 246 = 4 ∧ mOw 246 = 12 := by decide +kernel
theorem c13_75 : cal 13 75 = some 132 := by decide +kernel
theorem mf132 : mKd 132 = 0 ∧ mNp 132 = 1 ∧ mMx 132 = 2 ∧ mOw 132 = 11 := by decide +kernel
theorem c13_78 : cal 13 78 = some 247 := by decide +kernel
theorem mf247 : mKd 247 = 0 ∧ mNp 247 = 1 ∧ mMx 247 = 3 ∧ mOw 247 = 12 := by decide +kernel
theorem c13_79 : cal 13 79 = some 133 := by decide +kernel
theorem mf133 : mKd 133 = 0 ∧ mNp 133 = 2 ∧ mMx 133 = 3 ∧ mOw 133 = 11 := by decide +kernel
theorem c13_82 : cal 13 82 = some 249 := by decide +kernel
theorem mf249 : mKd 249 = 0 ∧ mNp 249 = 2 ∧ mMx 249 = 3 ∧ mOw 249 = 12 := by decide +kernel
theorem c13_83 : cal 13 83 = some 134 := by decide +kernel
theorem mf134 : mKd 134 = 0 ∧ mNp 134 = 2 ∧ mMx 134 = 3 ∧ mOw 134 = 11 := by decide +kernel
theorem c13_86 : cal 13 86 = some 250 := by decide +kernel
theorem mf250 : mKd 250 = 0 ∧ mNp 250 = 2 ∧ mMx 250 = 4 ∧ mOw 250 = 12 := by decide +kernel
theorem c13_87 : cal 13 87 = some 135 := by decide +kernel
theorem mf135 : mKd 135 = 0 ∧ mNp 135 = 3 ∧ mMx 135 = 4 ∧ mOw 135 = 11 := by decide +kernel
theorem c13_90 : cal 13 90 = some 251 := by decide +kernel
theorem mf251 : mKd 251 = 0 ∧ mNp 251 = 3 ∧ mMx 251 = 7 ∧ mOw 251 = 12 := by decide +kernel
theorem c13_91 : cal 13 91 = some 136 := by decide +kernel
theorem mf136 : mKd 136 = 0 ∧ mNp 136 = 0 ∧ mMx 136 = 1 ∧ mOw 136 = 11 := by decide +kernel
theorem c13_94 : cal 13 94 = some 252 := by decide +kernel
theorem mf252 : mKd 252 = 0 ∧ mNp 252 = 0 ∧ mMx 252 = 5 ∧ mOw 252 = 12 := by decide +kernel
theorem c13_95 : cal 13 95 = some 137 := by decide +kernel
theorem mf137 : mKd 137 = 0 ∧ mNp 137 = 1 ∧ mMx 137 = 2 ∧ mOw 137 = 11 := by decide +kernel
theorem c13_98 : cal 13 98 = some 253 := by decide +kernel
theorem mf253 : mKd 253 = 0 ∧ mNp 253 = 1 ∧ mMx 253 = 2 ∧ mOw 253 = 12 := by decide +kernel
theorem c13_99 : cal 13 99 = some 138 := by decide +kernel
theorem mf138 : mKd 138 = 0 ∧ mNp 138 = 1 ∧ mMx 138 = 2 ∧ mOw 138 = 11 := by decide +kernel
theorem c13_102 : cal 13 102 = some 255 := by decide +kernel
theorem mf255 : mKd 255 = 0 ∧ mNp 255 = 1 ∧ mMx 255 = 5 ∧ mOw 255 = 12 := by decide +kernel
theorem c13_103 : cal 13 103 = some 139 := by decide +kernel
theorem mf139 : mKd 139 = 0 ∧ mNp 139 = 2 ∧ mMx 139 = 5 ∧ mOw 139 = 11 := by decide +kernel
theorem c13_106 : cal 13 106 = some 257 := by decide +kernel
theorem mf257 : mKd 257 = 0 ∧ mNp 257 = 2 ∧ mMx 257 = 4 ∧ mOw 257 = 12 := by decide +kernel
theorem c13_107 : cal 13 107 = some 140 := by decide +kernel
theorem mf140 : mKd 140 = 0 ∧ mNp 140 = 1 ∧ mMx 140 = 2 ∧ mOw 140 = 11 := by decide +kernel
theorem c13_110 : cal 13 110 = some 259 := by decide +kernel
theorem mf259 : mKd 259 = 0 ∧ mNp 259 = 1 ∧ mMx 259 = 2 ∧ mOw 259 = 12 := by decide +kernel
theorem c13_111 : cal 13 111 = some 141 := by decide +kernel
theorem mf141 : mKd 141 = 0 ∧ mNp 141 = 1 ∧ mMx 141 = 3 ∧ mOw 141 = 11 := by decide +kernel
theorem c13_114 : cal 13 114 = some 260 := by decide +kernel
theorem mf260 : mKd 260 = 0 ∧ mNp 260 = 1 ∧ mMx 260 = 3 ∧ mOw 260 = 12 := by decide +kernel
theorem c13_115 : cal 13 115 = some 142 := by decide +kernel
theorem mf142 : mKd 142 = 0 ∧ mNp 142 = 2 ∧ mMx 142 = 3 ∧ mOw 142 = 11 := by decide +kernel
theorem c13_118 : cal 13 118 = some 264 := by decide +kernel
theorem mf264 : mKd 264 = 0 ∧ mNp 264 = 2 ∧ mMx 264 = 6 ∧ mOw 264 = 12 := by decide +kernel
theorem c13_119 : cal 13 119 = some 143 := by decide +kernel
theorem mf143 : mKd 143 = 0 ∧ mNp 143 = 2 ∧ mMx 143 = 3 ∧ mOw 143 = 11 := by decide +kernel
theorem c13_122 : cal 13 122 = some 265 := by decide +kernel
theorem mf265 : mKd 265 = 0 ∧ mNp 265 = 2 ∧ mMx 265 = 3 ∧ mOw 265 = 12 := by decide +kernel
theorem c13_123 : cal 13 123 = some 144 := by decide +kernel
theorem mf144 : mKd 144 = 0 ∧ mNp 144 = 2 ∧ mMx 144 = 3 ∧ mOw 144 = 11 := by decide +kernel
theorem c13_126 : cal 13 126 = some 266 := by decide +kernel
theorem mf266 : mKd 266 = 0 ∧ mNp 266 = 2 ∧ mMx 266 = 3 ∧ mOw 266 = 12 := by decide +kernel
theorem c13_127 : cal 13 127 = some 145 := by decide +kernel
theorem mf145 : mKd 145 = 0 ∧ mNp 145 = 3 ∧ mMx 145 = 4 ∧ mOw 145 = 11 := by decide +kernel
theorem c13_130 : cal 13 130 = some 269 := by decide +kernel
theorem mf269 : mKd 269 = 0 ∧ mNp 269 = 3 ∧ mMx 269 = 4 ∧ mOw 269 = 12 := by decide +kernel
theorem c13_131 : cal 13 131 = some 146 := by decide +kernel
theorem mf146 : mKd 146 = 0 ∧ mNp 146 = 3 ∧ mMx 146 = 6 ∧ mOw 146 = 11 := by decide +kernel
theorem c13_134 : cal 13 134 = some 270 := by decide +kernel
theorem mf270 : mKd 270 = 0 ∧ mNp 270 = 3 ∧ mMx 270 = 4 ∧ mOw 270 = 12 := by decide +kernel
theorem c13_135 : cal 13 135 = some 147 := by decide +kernel
theorem mf147 : mKd 147 = 0 ∧ mNp 147 = 2 ∧ mMx 147 = 3 ∧ mOw 147 = 11 := by decide +kernel
theorem c13_138 : cal 13 138 = some 271 := by decide +kernel
theorem mf271 : mKd 271 = 0 ∧ mNp 271 = 2 ∧ mMx 271 = 6 ∧ mOw 271 = 12 := by decide +kernel
theorem c13_139 : cal 13 139 = some 148 := by decide +kernel
theorem mf148 : mKd 148 = 0 ∧ mNp 148 = 1 ∧ mMx 148 = 2 ∧ mOw 148 = 11 := by decide +kernel
theorem c13_142 : cal 13 142 = some 273 := by decide +kernel
theorem mf273 : mKd 273 = 0 ∧ mNp 273 = 1 ∧ mMx 273 = 2 ∧ mOw 273 = 12 := by decide +kernel
theorem c13_143 : cal 13 143 = some 149 := by decide +kernel
theorem mf149 : mKd 149 = 0 ∧ mNp 149 = 2 ∧ mMx 149 = 3 ∧ mOw 149 = 11 := by decide +kernel
theorem nd309_1216 : nds 309 1216 = [] := by decide +kernel
theorem c13_147 : cal 13 147 = some 275 := by decide +kernel
theorem mf275 : mKd 275 = 0 ∧ mNp 275 = 2 ∧ mMx 275 = 15 ∧ mOw 275 = 12 := by decide +kernel
theorem nd309_1238 : nds 309 1238 = [] := by decide +kernel
theorem c13_148 : cal 13 148 = some 150 := by decide +kernel
theorem mf150 : mKd 150 = 0 ∧ mNp 150 = 1 ∧ mMx 150 = 2 ∧ mOw 150 = 11 := by decide +kernel
theorem c13_151 : cal 13 151 = some 276 := by decide +kernel
theorem mf276 : mKd 276 = 0 ∧ mNp 276 = 1 ∧ mMx 276 = 11 ∧ mOw 276 = 12 := by decide +kernel
theorem c13_152 : cal 13 152 = some 151 := by decide +kernel
theorem mf151 : mKd 151 = 0 ∧ mNp 151 = 3 ∧ mMx 151 = 4 ∧ mOw 151 = 11 := by decide +kernel
theorem c13_155 : cal 13 155 = some 277 := by decide +kernel
theorem mf277 : mKd 277 = 0 ∧ mNp 277 = 3 ∧ mMx 277 = 6 ∧ mOw 277 = 12 := by decide +kernel
theorem c13_156 : cal 13 156 = some 152 := by decide +kernel
theorem mf152 : mKd 152 = 0 ∧ mNp 152 = 2 ∧ mMx 152 = 3 ∧ mOw 152 = 11 := by decide +kernel
theorem c13_159 : cal 13 159 = some 278 := by decide +kernel
theorem mf278 : mKd 278 = 0 ∧ mNp 278 = 2 ∧ mMx 278 = 9 ∧ mOw 278 = 12 := by decide +kernel
theorem c13_160 : cal 13 160 = some 153 := by decide +kernel
theorem mf153 : mKd 153 = 0 ∧ mNp 153 = 3 ∧ mMx 153 = 5 ∧ mOw 153 = 11 := by decide +kernel
theorem c13_163 : cal 13 163 = some 281 := by decide +kernel
theorem mf281 : mKd 281 = 0 ∧ mNp 281 = 3 ∧ mMx 281 = 4 ∧ mOw 281 = 12 := by decide +kernel
theorem c13_164 : cal 13 164 = some 154 := by decide +kernel
theorem mf154 : mKd 154 = 0 ∧ mNp 154 = 5 ∧ mMx 154 = 9 ∧ mOw 154 = 11 := by decide +kernel
theorem c13_168 : cal 13 168 = some 282 := by decide +kernel
theorem mf282 : mKd 282 = 0 ∧ mNp 282 = 5 ∧ mMx 282 = 6 ∧ mOw 282 = 12 := by decide +kernel
theorem c13_169 : cal 13 169 = some 155 := by decide +kernel
theorem mf155 : mKd 155 = 0 ∧ mNp 155 = 6 ∧ mMx 155 = 9 ∧ mOw 155 = 11 := by decide +kernel
theorem c13_173 : cal 13 173 = some 286 := by decide +kernel
theorem mf286 : mKd 286 = 0 ∧ mNp 286 = 6 ∧ mMx 286 = 9 ∧ mOw 286 = 12 := by decide +kernel
theorem c13_174 : cal 13 174 = some 156 := by decide +kernel
theorem mf156 : mKd 156 = 0 ∧ mNp 156 = 3 ∧ mMx 156 = 5 ∧ mOw 156 = 11 := by decide +kernel
theorem c13_177 : cal 13 177 = some 289 := by decide +kernel
theorem mf289 : mKd 289 = 0 ∧ mNp 289 = 3 ∧ mMx 289 = 4 ∧ mOw 289 = 12 := by decide +kernel
theorem c13_178 : cal 13 178 = some 157 := by decide +kernel
theorem mf157 : mKd 157 = 0 ∧ mNp 157 = 1 ∧ mMx 157 = 2 ∧ mOw 157 = 11 := by decide +kernel
theorem c13_181 : cal 13 181 = some 299 := by decide +kernel
theorem mf299 : mKd 299 = 0 ∧ mNp 299 = 1 ∧ mMx 299 = 3 ∧ mOw 299 = 12 := by decide +kernel
theorem c13_182 : cal 13 182 = some 158 := by decide +kernel
theorem mf158 : mKd 158 = 0 ∧ mNp 158 = 1 ∧ mMx 158 = 3 ∧ mOw 158 = 11 := by decide +kernel
theorem c13_185 : cal 13 185 = some 300 := by decide +kernel
theorem mf300 : mKd 300 = 0 ∧ mNp 300 = 1 ∧ mMx 300 = 2 ∧ mOw 300 = 12 := by decide +kernel
theorem c13_186 : cal 13 186 = some 159 := by decide +kernel
theorem mf159 : mKd 159 = 0 ∧ mNp 159 = 1 ∧ mMx 159 = 6 ∧ mOw 159 = 11 := by decide +kernel
theorem c13_189 : cal 13 189 = some 302 := by decide +kernel
theorem mf302 : mKd 302 = 0 ∧ mNp 302 = 1 ∧ mMx 302 = 4 ∧ mOw 302 = 12 := by decide +kernel
theorem c13_190 : cal 13 190 = some 160 := by decide +kernel
theorem mf160 : mKd 160 = 0 ∧ mNp 160 = 0 ∧ mMx 160 = 3 ∧ mOw 160 = 11 := by decide +kernel
theorem c13_193 : cal 13 193 = some 303 := by decide +kernel
theorem mf303 : mKd 303 = 0 ∧ mNp 303 = 0 ∧ mMx 303 = 2 ∧ mOw 303 = 12 := by decide +kernel
theorem c13_194 : cal 13 194 = some 161 := by decide +kernel
theorem mf161 : mKd 161 = 0 ∧ mNp 161 = 4 ∧ mMx 161 = 5 ∧ mOw 161 = 11 := by decide +kernel
theorem c13_197 : cal 13 197 = some 306 := by decide +kernel
theorem mf306 : mKd 306 = 0 ∧ mNp 306 = 4 ∧ mMx 306 = 5 ∧ mOw 306 = 12 := by decide +kernel
theorem c13_198 : cal 13 198 = some 162 := by decide +kernel
theorem mf162 : mKd 162 = 0 ∧ mNp 162 = 4 ∧ mMx 162 = 9 ∧ mOw 162 = 11 := by decide +kernel
theorem c13_201 : cal 13 201 = some 307 := by decide +kernel
theorem mf307 : mKd 307 = 0 ∧ mNp 307 = 4 ∧ mMx 307 = 9 ∧ mOw 307 = 12 := by decide +kernel
theorem ci7 : Int32.ofInt 7 = 7 := by decide +kernel
theorem nd309_18 : nds 309 18 = [] := by decide +kernel
theorem zt118 : mRt 118 = (some .int) := by decide +kernel
theorem zt177 : mRt 177 = (some .int) := by decide +kernel
theorem zt119 : mRt 119 = (some .int) := by decide +kernel
theorem zt198 : mRt 198 = (some .int) := by decide +kernel
theorem zt120 : mRt 120 = (some .int) := by decide +kernel
theorem zt202 : mRt 202 = (some .int) := by decide +kernel
theorem zt121 : mRt 121 = (some .int) := by decide +kernel
theorem zt203 : mRt 203 = (some .int) := by decide +kernel
theorem zt122 : mRt 122 = (some .int) := by decide +kernel
theorem zt204 : mRt 204 = (some .int) := by decide +kernel
theorem zt123 : mRt 123 = (some .int) := by decide +kernel
theorem zt205 : mRt 205 = (some .int) := by decide +kernel
theorem zt124 : mRt 124 = (some .int) := by decide +kernel
theorem zt206 : mRt 206 = (some .int) := by decide +kernel
theorem zt125 : mRt 125 = (some .int) := by decide +kernel
theorem zt238 : mRt 238 = (some .int) := by decide +kernel
theorem zt126 : mRt 126 = (some .int) := by decide +kernel
theorem zt240 : mRt 240 = (some .int) := by decide +kernel
theorem zt127 : mRt 127 = (some .int) := by decide +kernel
theorem zt241 : mRt 241 = (some .int) := by decide +kernel
theorem zt128 : mRt 128 = (some .int) := by decide +kernel
theorem zt242 : mRt 242 = (some .int) := by decide +kernel
theorem zt129 : mRt 129 = (some .int) := by decide +kernel
theorem zt243 : mRt 243 = (some .int) := by decide +kernel
theorem zt130 : mRt 130 = (some .long) := by decide +kernel
theorem zt244 : mRt 244 = (some .long) := by decide +kernel
theorem zt131 : mRt 131 = (some .int) := by decide +kernel
theorem zt246 : mRt 246 = (some .int) := by decide +kernel
theorem zt132 : mRt 132 = (some .int) := by decide +kernel
theorem zt247 : mRt 247 = (some .int) := by decide +kernel
theorem zt133 : mRt 133 = (some .int) := by decide +kernel
theorem zt249 : mRt 249 = (some .int) := by decide +kernel
theorem zt134 : mRt 134 = (some .int) := by decide +kernel
theorem zt250 : mRt 250 = (some .int) := by decide +kernel
theorem zt135 : mRt 135 = (some .int) := by decide +kernel
theorem zt251 : mRt 251 = (some .int) := by decide +kernel
theorem zt136 : mRt 136 = (some .int) := by decide +kernel
theorem zt252 : mRt 252 = (some .int) := by decide +kernel
theorem zt137 : mRt 137 = (some .int) := by decide +kernel
theorem zt253 : mRt 253 = (some .int) := by decide +kernel
theorem zt138 : mRt 138 = (some .int) := by decide +kernel
theorem zt255 : mRt 255 = (some .int) := by decide +kernel
theorem zt139 : mRt 139 = (some .int) := by decide +kernel
theorem zt257 : mRt 257 = (some .int) := by decide +kernel
theorem zt140 : mRt 140 = (some .int) := by decide +kernel
theorem zt259 : mRt 259 = (some .int) := by decide +kernel
theorem zt141 : mRt 141 = (some .int) := by decide +kernel
theorem zt260 : mRt 260 = (some .int) := by decide +kernel
theorem zt142 : mRt 142 = (some .int) := by decide +kernel
theorem zt264 : mRt 264 = (some .int) := by decide +kernel
theorem zt143 : mRt 143 = (some .int) := by decide +kernel
theorem zt265 : mRt 265 = (some .int) := by decide +kernel
theorem zt144 : mRt 144 = (some .int) := by decide +kernel
theorem zt266 : mRt 266 = (some .int) := by decide +kernel
theorem zt145 : mRt 145 = (some .int) := by decide +kernel
theorem zt269 : mRt 269 = (some .int) := by decide +kernel
theorem zt146 : mRt 146 = (some .int) := by decide +kernel
theorem zt270 : mRt 270 = (some .int) := by decide +kernel
theorem zt147 : mRt 147 = (some .int) := by decide +kernel
theorem zt271 : mRt 271 = (some .int) := by decide +kernel
theorem zt148 : mRt 148 = (some .int) := by decide +kernel
theorem zt273 : mRt 273 = (some .int) := by decide +kernel
theorem zt149 : mRt 149 = (some .int) := by decide +kernel
theorem zt275 : mRt 275 = (some .int) := by decide +kernel
theorem zt150 : mRt 150 = (some .int) := by decide +kernel
theorem zt276 : mRt 276 = (some .int) := by decide +kernel
theorem zt151 : mRt 151 = (some .int) := by decide +kernel
theorem zt277 : mRt 277 = (some .int) := by decide +kernel
theorem zt152 : mRt 152 = (some .int) := by decide +kernel
theorem zt278 : mRt 278 = (some .int) := by decide +kernel
theorem zt153 : mRt 153 = (some .int) := by decide +kernel
theorem zt281 : mRt 281 = (some .int) := by decide +kernel
theorem zt154 : mRt 154 = (some .int) := by decide +kernel
theorem zt282 : mRt 282 = (some .int) := by decide +kernel
theorem zt155 : mRt 155 = (some .long) := by decide +kernel
theorem zt286 : mRt 286 = (some .long) := by decide +kernel
theorem zt156 : mRt 156 = (some .int) := by decide +kernel
theorem zt289 : mRt 289 = (some .int) := by decide +kernel
theorem zt157 : mRt 157 = (some .int) := by decide +kernel
theorem zt299 : mRt 299 = (some .int) := by decide +kernel
theorem zt158 : mRt 158 = (some .int) := by decide +kernel
theorem zt300 : mRt 300 = (some .int) := by decide +kernel
theorem zt159 : mRt 159 = (some .int) := by decide +kernel
theorem zt302 : mRt 302 = (some .int) := by decide +kernel
theorem zt160 : mRt 160 = (some .int) := by decide +kernel
theorem zt303 : mRt 303 = (some .int) := by decide +kernel
theorem zt161 : mRt 161 = (some .int) := by decide +kernel
theorem zt306 : mRt 306 = (some .int) := by decide +kernel
theorem zt162 : mRt 162 = (some .int) := by decide +kernel
theorem zt307 : mRt 307 = (some .int) := by decide +kernel
theorem E309_18 {d sl : Nat} {p : Nat → Nat} {I : Nat → Nat → Int32} {J : Nat → Nat → Int64} (i : Int32) : ev d 309 18 [.ref 0, .ref 1, .ref 46, .int i] [] (S sl p I J) = (if i ≤ ((nI sl) - 7) then ck (ixb sl i) (ev d 309 33 [.ref 0, .ref 1, .ref 46, .int i] [.int ((I 0 (Int32.toNatClampNeg i)) &&& 63)] (S sl p I J)) else some (some (.int 1), (S sl p I J))) := by
  refine (r_iln (dk D309c0 10 rfl) rfl).trans ?_
  refine (r_aln (dk D309c0 11 rfl) rfl).trans ?_
  refine (r_scl (dk D309c0 12 rfl)).trans ?_
  refine (r_bp (dk D309c0 13 rfl) cb7).trans ?_
  refine (r_isub (dk D309c0 14 rfl)).trans ?_
  refine (r_gt (dk D309c0 15 rfl) rfl).trans (ite2 ?_ ?_)
  · refine (r_aln (dk D309c0 16 rfl) rfl).trans ?_
    refine (r_iln (dk D309c0 17 rfl) rfl).trans ?_
    refine (r_scr (dk D309c0 18 rfl)).trans (ck3 fun g1 => ?_)
    refine (r_bp (dk D309c0 19 rfl) cb63).trans ?_
    refine (r_iand (dk D309c0 20 rfl)).trans ?_
    exact rfl
  · refine (r_ic (dk D309c42 19 rfl) ci1).trans ?_
    exact r_rez (dk D309c42 20 rfl) rt309 (by decide)
theorem E309_228 {d sl : Nat} {p : Nat → Nat} {I : Nat → Nat → Int32} {J : Nat → Nat → Int64} (i : Int32) : ev (d + 1) 309 228 [.ref 0, .ref 1, .ref 46, .int i] [] (S sl p I J) = evK (d + 1) 309 232 [.ref 0, .ref 1, .ref 46, .int i] [] (den d 118 [.ref 1] (S sl p I J)) := by
  refine (r_aln (dk D309c0 22 rfl) rfl).trans ?_
  exact r_cv (dk D309c0 23 rfl) ow309 c13_13 mf118 (Nat.le_of_ble_eq_true rfl) rfl rfl (Nat.le_of_ble_eq_true rfl) (Nat.le_of_ble_eq_true rfl) ob_1
theorem E309_232 {d sl : Nat} {p : Nat → Nat} {I : Nat → Nat → Int32} {J : Nat → Nat → Int64} (i : Int32) (x : Int32) : ev (d + 1) 309 232 [.ref 0, .ref 1, .ref 46, .int i] [.int x] (S sl p I J) = evK (d + 1) 309 236 [.ref 0, .ref 1, .ref 46, .int i] [.int x] (den d 177 [.ref 46] (S sl p I J)) := by
  refine (r_aln (dk D309c0 24 rfl) rfl).trans ?_
  exact r_cv (dk D309c0 25 rfl) ow309 c13_17 mf177 (Nat.le_of_ble_eq_true rfl) rfl rfl (Nat.le_of_ble_eq_true rfl) (Nat.le_of_ble_eq_true rfl) ob_46
theorem E309_236 {d sl : Nat} {p : Nat → Nat} {I : Nat → Nat → Int32} {J : Nat → Nat → Int64} (i : Int32) (z x : Int32) : ev d 309 236 [.ref 0, .ref 1, .ref 46, .int i] [.int z, .int x] (S sl p I J) = (if x = z then ev d 309 1763 [.ref 0, .ref 1, .ref 46, .int i] [] (S sl p I J) else some (some (.int 0), (S sl p I J))) := by
  refine (r_eq (dk D309c0 26 rfl) rfl).trans (ite2 ?_ ?_)
  · exact rfl
  · refine (r_ic (dk D309c0 27 rfl) ci0).trans ?_
    exact r_rez (dk D309c0 28 rfl) rt309 (by decide)
theorem E309_241 {d sl : Nat} {p : Nat → Nat} {I : Nat → Nat → Int32} {J : Nat → Nat → Int64} (i : Int32) : ev (d + 1) 309 241 [.ref 0, .ref 1, .ref 46, .int i] [] (S sl p I J) = ck (ixb sl (i + 1)) (ck (ixb sl (i + 2)) (ck (ixb sl (i + 3)) (evK (d + 1) 309 260 [.ref 0, .ref 1, .ref 46, .int i] [] (den d 119 [.ref 1, .int (I 0 (Int32.toNatClampNeg (i + 1))), .int (I 0 (Int32.toNatClampNeg (i + 2))), .int (I 0 (Int32.toNatClampNeg (i + 3)))] (S sl p I J))))) := by
  refine (r_aln (dk D309c0 29 rfl) rfl).trans ?_
  refine (r_aln (dk D309c1 0 rfl) rfl).trans ?_
  refine (r_iln (dk D309c1 1 rfl) rfl).trans ?_
  refine (r_ic (dk D309c1 2 rfl) ci1).trans ?_
  refine (r_iadd (dk D309c1 3 rfl)).trans ?_
  refine (r_scr (dk D309c1 4 rfl)).trans (ck3 fun g1 => ?_)
  refine (r_aln (dk D309c1 5 rfl) rfl).trans ?_
  refine (r_iln (dk D309c1 6 rfl) rfl).trans ?_
  refine (r_ic (dk D309c1 7 rfl) ci2).trans ?_
  refine (r_iadd (dk D309c1 8 rfl)).trans ?_
  refine (r_scr (dk D309c1 9 rfl)).trans (ck3 fun g2 => ?_)
  refine (r_aln (dk D309c1 10 rfl) rfl).trans ?_
  refine (r_iln (dk D309c1 11 rfl) rfl).trans ?_
  refine (r_ic (dk D309c1 12 rfl) ci3).trans ?_
  refine (r_iadd (dk D309c1 13 rfl)).trans ?_
  refine (r_scr (dk D309c1 14 rfl)).trans (ck3 fun g3 => ?_)
  exact r_cv (dk D309c1 15 rfl) ow309 c13_18 mf119 (Nat.le_of_ble_eq_true rfl) rfl rfl (Nat.le_of_ble_eq_true rfl) (Nat.le_of_ble_eq_true rfl) ob_1
theorem E309_260 {d sl : Nat} {p : Nat → Nat} {I : Nat → Nat → Int32} {J : Nat → Nat → Int64} (i : Int32) (x : Int32) : ev (d + 1) 309 260 [.ref 0, .ref 1, .ref 46, .int i] [.int x] (S sl p I J) = ck (ixb sl (i + 1)) (ck (ixb sl (i + 2)) (ck (ixb sl (i + 3)) (evK (d + 1) 309 279 [.ref 0, .ref 1, .ref 46, .int i] [.int x] (den d 198 [.ref 46, .int (I 0 (Int32.toNatClampNeg (i + 1))), .int (I 0 (Int32.toNatClampNeg (i + 2))), .int (I 0 (Int32.toNatClampNeg (i + 3)))] (S sl p I J))))) := by
  refine (r_aln (dk D309c1 16 rfl) rfl).trans ?_
  refine (r_aln (dk D309c1 17 rfl) rfl).trans ?_
  refine (r_iln (dk D309c1 18 rfl) rfl).trans ?_
  refine (r_ic (dk D309c1 19 rfl) ci1).trans ?_
  refine (r_iadd (dk D309c1 20 rfl)).trans ?_
  refine (r_scr (dk D309c1 21 rfl)).trans (ck3 fun g1 => ?_)
  refine (r_aln (dk D309c1 22 rfl) rfl).trans ?_
  refine (r_iln (dk D309c1 23 rfl) rfl).trans ?_
  refine (r_ic (dk D309c1 24 rfl) ci2).trans ?_
  refine (r_iadd (dk D309c1 25 rfl)).trans ?_
  refine (r_scr (dk D309c1 26 rfl)).trans (ck3 fun g2 => ?_)
  refine (r_aln (dk D309c1 27 rfl) rfl).trans ?_
  refine (r_iln (dk D309c1 28 rfl) rfl).trans ?_
  refine (r_ic (dk D309c1 29 rfl) ci3).trans ?_
  refine (r_iadd (dk D309c2 0 rfl)).trans ?_
  refine (r_scr (dk D309c2 1 rfl)).trans (ck3 fun g3 => ?_)
  exact r_cv (dk D309c2 2 rfl) ow309 c13_22 mf198 (Nat.le_of_ble_eq_true rfl) rfl rfl (Nat.le_of_ble_eq_true rfl) (Nat.le_of_ble_eq_true rfl) ob_46
theorem E309_279 {d sl : Nat} {p : Nat → Nat} {I : Nat → Nat → Int32} {J : Nat → Nat → Int64} (i : Int32) (z x : Int32) : ev d 309 279 [.ref 0, .ref 1, .ref 46, .int i] [.int z, .int x] (S sl p I J) = (if x = z then ev d 309 1763 [.ref 0, .ref 1, .ref 46, .int i] [] (S sl p I J) else some (some (.int 0), (S sl p I J))) := by
  refine (r_eq (dk D309c2 3 rfl) rfl).trans (ite2 ?_ ?_)
  · exact rfl
  · refine (r_ic (dk D309c2 4 rfl) ci0).trans ?_
    exact r_rez (dk D309c2 5 rfl) rt309 (by decide)
theorem E309_284 {d sl : Nat} {p : Nat → Nat} {I : Nat → Nat → Int32} {J : Nat → Nat → Int64} (i : Int32) : ev (d + 1) 309 284 [.ref 0, .ref 1, .ref 46, .int i] [] (S sl p I J) = ck (ixb sl (i + 1)) (ck (ixb sl (i + 2)) (ck (ixb sl (i + 3)) (ck (ixb sl (i + 4)) (evK (d + 1) 309 308 [.ref 0, .ref 1, .ref 46, .int i] [] (den d 120 [.ref 1, .int (I 0 (Int32.toNatClampNeg (i + 1))), .int (I 0 (Int32.toNatClampNeg (i + 2))), .int (I 0 (Int32.toNatClampNeg (i + 3))), .int (I 0 (Int32.toNatClampNeg (i + 4)))] (S sl p I J)))))) := by
  refine (r_aln (dk D309c2 6 rfl) rfl).trans ?_
  refine (r_aln (dk D309c2 7 rfl) rfl).trans ?_
  refine (r_iln (dk D309c2 8 rfl) rfl).trans ?_
  refine (r_ic (dk D309c2 9 rfl) ci1).trans ?_
  refine (r_iadd (dk D309c2 10 rfl)).trans ?_
  refine (r_scr (dk D309c2 11 rfl)).trans (ck3 fun g1 => ?_)
  refine (r_aln (dk D309c2 12 rfl) rfl).trans ?_
  refine (r_iln (dk D309c2 13 rfl) rfl).trans ?_
  refine (r_ic (dk D309c2 14 rfl) ci2).trans ?_
  refine (r_iadd (dk D309c2 15 rfl)).trans ?_
  refine (r_scr (dk D309c2 16 rfl)).trans (ck3 fun g2 => ?_)
  refine (r_aln (dk D309c2 17 rfl) rfl).trans ?_
  refine (r_iln (dk D309c2 18 rfl) rfl).trans ?_
  refine (r_ic (dk D309c2 19 rfl) ci3).trans ?_
  refine (r_iadd (dk D309c2 20 rfl)).trans ?_
  refine (r_scr (dk D309c2 21 rfl)).trans (ck3 fun g3 => ?_)
  refine (r_aln (dk D309c2 22 rfl) rfl).trans ?_
  refine (r_iln (dk D309c2 23 rfl) rfl).trans ?_
  refine (r_ic (dk D309c2 24 rfl) ci4).trans ?_
  refine (r_iadd (dk D309c2 25 rfl)).trans ?_
  refine (r_scr (dk D309c2 26 rfl)).trans (ck3 fun g4 => ?_)
  exact r_cv (dk D309c2 27 rfl) ow309 c13_23 mf120 (Nat.le_of_ble_eq_true rfl) rfl rfl (Nat.le_of_ble_eq_true rfl) (Nat.le_of_ble_eq_true rfl) ob_1
theorem E309_308 {d sl : Nat} {p : Nat → Nat} {I : Nat → Nat → Int32} {J : Nat → Nat → Int64} (i : Int32) (x : Int32) : ev (d + 1) 309 308 [.ref 0, .ref 1, .ref 46, .int i] [.int x] (S sl p I J) = ck (ixb sl (i + 1)) (ck (ixb sl (i + 2)) (ck (ixb sl (i + 3)) (ck (ixb sl (i + 4)) (evK (d + 1) 309 332 [.ref 0, .ref 1, .ref 46, .int i] [.int x] (den d 202 [.ref 46, .int (I 0 (Int32.toNatClampNeg (i + 1))), .int (I 0 (Int32.toNatClampNeg (i + 2))), .int (I 0 (Int32.toNatClampNeg (i + 3))), .int (I 0 (Int32.toNatClampNeg (i + 4)))] (S sl p I J)))))) := by
  refine (r_aln (dk D309c2 28 rfl) rfl).trans ?_
  refine (r_aln (dk D309c2 29 rfl) rfl).trans ?_
  refine (r_iln (dk D309c3 0 rfl) rfl).trans ?_
  refine (r_ic (dk D309c3 1 rfl) ci1).trans ?_
  refine (r_iadd (dk D309c3 2 rfl)).trans ?_
  refine (r_scr (dk D309c3 3 rfl)).trans (ck3 fun g1 => ?_)
  refine (r_aln (dk D309c3 4 rfl) rfl).trans ?_
  refine (r_iln (dk D309c3 5 rfl) rfl).trans ?_
  refine (r_ic (dk D309c3 6 rfl) ci2).trans ?_
  refine (r_iadd (dk D309c3 7 rfl)).trans ?_
  refine (r_scr (dk D309c3 8 rfl)).trans (ck3 fun g2 => ?_)
  refine (r_aln (dk D309c3 9 rfl) rfl).trans ?_
  refine (r_iln (dk D309c3 10 rfl) rfl).trans ?_
  refine (r_ic (dk D309c3 11 rfl) ci3).trans ?_
  refine (r_iadd (dk D309c3 12 rfl)).trans ?_
  refine (r_scr (dk D309c3 13 rfl)).trans (ck3 fun g3 => ?_)
  refine (r_aln (dk D309c3 14 rfl) rfl).trans ?_
  refine (r_iln (dk D309c3 15 rfl) rfl).trans ?_
  refine (r_ic (dk D309c3 16 rfl) ci4).trans ?_
  refine (r_iadd (dk D309c3 17 rfl)).trans ?_
  refine (r_scr (dk D309c3 18 rfl)).trans (ck3 fun g4 => ?_)
  exact r_cv (dk D309c3 19 rfl) ow309 c13_27 mf202 (Nat.le_of_ble_eq_true rfl) rfl rfl (Nat.le_of_ble_eq_true rfl) (Nat.le_of_ble_eq_true rfl) ob_46
theorem E309_332 {d sl : Nat} {p : Nat → Nat} {I : Nat → Nat → Int32} {J : Nat → Nat → Int64} (i : Int32) (z x : Int32) : ev d 309 332 [.ref 0, .ref 1, .ref 46, .int i] [.int z, .int x] (S sl p I J) = (if x = z then ev d 309 1763 [.ref 0, .ref 1, .ref 46, .int i] [] (S sl p I J) else some (some (.int 0), (S sl p I J))) := by
  refine (r_eq (dk D309c3 20 rfl) rfl).trans (ite2 ?_ ?_)
  · exact rfl
  · refine (r_ic (dk D309c3 21 rfl) ci0).trans ?_
    exact r_rez (dk D309c3 22 rfl) rt309 (by decide)
theorem E309_337 {d sl : Nat} {p : Nat → Nat} {I : Nat → Nat → Int32} {J : Nat → Nat → Int64} (i : Int32) : ev (d + 1) 309 337 [.ref 0, .ref 1, .ref 46, .int i] [] (S sl p I J) = ck (ixb sl (i + 1)) (evK (d + 1) 309 346 [.ref 0, .ref 1, .ref 46, .int i] [] (den d 121 [.ref 1, .int (I 0 (Int32.toNatClampNeg (i + 1)))] (S sl p I J))) := by
  refine (r_aln (dk D309c3 23 rfl) rfl).trans ?_
  refine (r_aln (dk D309c3 24 rfl) rfl).trans ?_
  refine (r_iln (dk D309c3 25 rfl) rfl).trans ?_
  refine (r_ic (dk D309c3 26 rfl) ci1).trans ?_
  refine (r_iadd (dk D309c3 27 rfl)).trans ?_
  refine (r_scr (dk D309c3 28 rfl)).trans (ck3 fun g1 => ?_)
  exact r_cv (dk D309c3 29 rfl) ow309 c13_28 mf121 (Nat.le_of_ble_eq_true rfl) rfl rfl (Nat.le_of_ble_eq_true rfl) (Nat.le_of_ble_eq_true rfl) ob_1
theorem E309_346 {d sl : Nat} {p : Nat → Nat} {I : Nat → Nat → Int32} {J : Nat → Nat → Int64} (i : Int32) (x : Int32) : ev (d + 1) 309 346 [.ref 0, .ref 1, .ref 46, .int i] [.int x] (S sl p I J) = ck (ixb sl (i + 1)) (evK (d + 1) 309 355 [.ref 0, .ref 1, .ref 46, .int i] [.int x] (den d 203 [.ref 46, .int (I 0 (Int32.toNatClampNeg (i + 1)))] (S sl p I J))) := by
  refine (r_aln (dk D309c4 0 rfl) rfl).trans ?_
  refine (r_aln (dk D309c4 1 rfl) rfl).trans ?_
  refine (r_iln (dk D309c4 2 rfl) rfl).trans ?_
  refine (r_ic (dk D309c4 3 rfl) ci1).trans ?_
  refine (r_iadd (dk D309c4 4 rfl)).trans ?_
  refine (r_scr (dk D309c4 5 rfl)).trans (ck3 fun g1 => ?_)
  exact r_cv (dk D309c4 6 rfl) ow309 c13_32 mf203 (Nat.le_of_ble_eq_true rfl) rfl rfl (Nat.le_of_ble_eq_true rfl) (Nat.le_of_ble_eq_true rfl) ob_46
theorem E309_355 {d sl : Nat} {p : Nat → Nat} {I : Nat → Nat → Int32} {J : Nat → Nat → Int64} (i : Int32) (z x : Int32) : ev d 309 355 [.ref 0, .ref 1, .ref 46, .int i] [.int z, .int x] (S sl p I J) = (if x = z then ev d 309 1763 [.ref 0, .ref 1, .ref 46, .int i] [] (S sl p I J) else some (some (.int 0), (S sl p I J))) := by
  refine (r_eq (dk D309c4 7 rfl) rfl).trans (ite2 ?_ ?_)
  · exact rfl
  · refine (r_ic (dk D309c4 8 rfl) ci0).trans ?_
    exact r_rez (dk D309c4 9 rfl) rt309 (by decide)
theorem E309_360 {d sl : Nat} {p : Nat → Nat} {I : Nat → Nat → Int32} {J : Nat → Nat → Int64} (i : Int32) : ev (d + 1) 309 360 [.ref 0, .ref 1, .ref 46, .int i] [] (S sl p I J) = ck (ixb sl (i + 1)) (ck (ixb sl (i + 2)) (evK (d + 1) 309 374 [.ref 0, .ref 1, .ref 46, .int i] [] (den d 122 [.ref 1, .int (I 0 (Int32.toNatClampNeg (i + 1))), .int (I 0 (Int32.toNatClampNeg (i + 2)))] (S sl p I J)))) := by
  refine (r_aln (dk D309c4 10 rfl) rfl).trans ?_
  refine (r_aln (dk D309c4 11 rfl) rfl).trans ?_
  refine (r_iln (dk D309c4 12 rfl) rfl).trans ?_
  refine (r_ic (dk D309c4 13 rfl) ci1).trans ?_
  refine (r_iadd (dk D309c4 14 rfl)).trans ?_
  refine (r_scr (dk D309c4 15 rfl)).trans (ck3 fun g1 => ?_)
  refine (r_aln (dk D309c4 16 rfl) rfl).trans ?_
  refine (r_iln (dk D309c4 17 rfl) rfl).trans ?_
  refine (r_ic (dk D309c4 18 rfl) ci2).trans ?_
  refine (r_iadd (dk D309c4 19 rfl)).trans ?_
  refine (r_scr (dk D309c4 20 rfl)).trans (ck3 fun g2 => ?_)
  exact r_cv (dk D309c4 21 rfl) ow309 c13_33 mf122 (Nat.le_of_ble_eq_true rfl) rfl rfl (Nat.le_of_ble_eq_true rfl) (Nat.le_of_ble_eq_true rfl) ob_1
theorem E309_374 {d sl : Nat} {p : Nat → Nat} {I : Nat → Nat → Int32} {J : Nat → Nat → Int64} (i : Int32) (x : Int32) : ev (d + 1) 309 374 [.ref 0, .ref 1, .ref 46, .int i] [.int x] (S sl p I J) = ck (ixb sl (i + 1)) (ck (ixb sl (i + 2)) (evK (d + 1) 309 388 [.ref 0, .ref 1, .ref 46, .int i] [.int x] (den d 204 [.ref 46, .int (I 0 (Int32.toNatClampNeg (i + 1))), .int (I 0 (Int32.toNatClampNeg (i + 2)))] (S sl p I J)))) := by
  refine (r_aln (dk D309c4 22 rfl) rfl).trans ?_
  refine (r_aln (dk D309c4 23 rfl) rfl).trans ?_
  refine (r_iln (dk D309c4 24 rfl) rfl).trans ?_
  refine (r_ic (dk D309c4 25 rfl) ci1).trans ?_
  refine (r_iadd (dk D309c4 26 rfl)).trans ?_
  refine (r_scr (dk D309c4 27 rfl)).trans (ck3 fun g1 => ?_)
  refine (r_aln (dk D309c4 28 rfl) rfl).trans ?_
  refine (r_iln (dk D309c4 29 rfl) rfl).trans ?_
  refine (r_ic (dk D309c5 0 rfl) ci2).trans ?_
  refine (r_iadd (dk D309c5 1 rfl)).trans ?_
  refine (r_scr (dk D309c5 2 rfl)).trans (ck3 fun g2 => ?_)
  exact r_cv (dk D309c5 3 rfl) ow309 c13_37 mf204 (Nat.le_of_ble_eq_true rfl) rfl rfl (Nat.le_of_ble_eq_true rfl) (Nat.le_of_ble_eq_true rfl) ob_46
theorem E309_388 {d sl : Nat} {p : Nat → Nat} {I : Nat → Nat → Int32} {J : Nat → Nat → Int64} (i : Int32) (z x : Int32) : ev d 309 388 [.ref 0, .ref 1, .ref 46, .int i] [.int z, .int x] (S sl p I J) = (if x = z then ev d 309 1763 [.ref 0, .ref 1, .ref 46, .int i] [] (S sl p I J) else some (some (.int 0), (S sl p I J))) := by
  refine (r_eq (dk D309c5 4 rfl) rfl).trans (ite2 ?_ ?_)
  · exact rfl
  · refine (r_ic (dk D309c5 5 rfl) ci0).trans ?_
    exact r_rez (dk D309c5 6 rfl) rt309 (by decide)
theorem E309_393 {d sl : Nat} {p : Nat → Nat} {I : Nat → Nat → Int32} {J : Nat → Nat → Int64} (i : Int32) : ev (d + 1) 309 393 [.ref 0, .ref 1, .ref 46, .int i] [] (S sl p I J) = ck (ixb sl (i + 1)) (evK (d + 1) 309 402 [.ref 0, .ref 1, .ref 46, .int i] [] (den d 123 [.ref 1, .int (I 0 (Int32.toNatClampNeg (i + 1)))] (S sl p I J))) := by
  refine (r_aln (dk D309c5 7 rfl) rfl).trans ?_
  refine (r_aln (dk D309c5 8 rfl) rfl).trans ?_
  refine (r_iln (dk D309c5 9 rfl) rfl).trans ?_
  refine (r_ic (dk D309c5 10 rfl) ci1).trans ?_
  refine (r_iadd (dk D309c5 11 rfl)).trans ?_
  refine (r_scr (dk D309c5 12 rfl)).trans (ck3 fun g1 => ?_)
  exact r_cv (dk D309c5 13 rfl) ow309 c13_38 mf123 (Nat.le_of_ble_eq_true rfl) rfl rfl (Nat.le_of_ble_eq_true rfl) (Nat.le_of_ble_eq_true rfl) ob_1
theorem E309_402 {d sl : Nat} {p : Nat → Nat} {I : Nat → Nat → Int32} {J : Nat → Nat → Int64} (i : Int32) (x : Int32) : ev (d + 1) 309 402 [.ref 0, .ref 1, .ref 46, .int i] [.int x] (S sl p I J) = ck (ixb sl (i + 1)) (evK (d + 1) 309 411 [.ref 0, .ref 1, .ref 46, .int i] [.int x] (den d 205 [.ref 46, .int (I 0 (Int32.toNatClampNeg (i + 1)))] (S sl p I J))) := by
  refine (r_aln (dk D309c5 14 rfl) rfl).trans ?_
  refine (r_aln (dk D309c5 15 rfl) rfl).trans ?_
  refine (r_iln (dk D309c5 16 rfl) rfl).trans ?_
  refine (r_ic (dk D309c5 17 rfl) ci1).trans ?_
  refine (r_iadd (dk D309c5 18 rfl)).trans ?_
  refine (r_scr (dk D309c5 19 rfl)).trans (ck3 fun g1 => ?_)
  exact r_cv (dk D309c5 20 rfl) ow309 c13_41 mf205 (Nat.le_of_ble_eq_true rfl) rfl rfl (Nat.le_of_ble_eq_true rfl) (Nat.le_of_ble_eq_true rfl) ob_46
theorem E309_411 {d sl : Nat} {p : Nat → Nat} {I : Nat → Nat → Int32} {J : Nat → Nat → Int64} (i : Int32) (z x : Int32) : ev d 309 411 [.ref 0, .ref 1, .ref 46, .int i] [.int z, .int x] (S sl p I J) = (if x = z then ev d 309 1763 [.ref 0, .ref 1, .ref 46, .int i] [] (S sl p I J) else some (some (.int 0), (S sl p I J))) := by
  refine (r_eq (dk D309c5 21 rfl) rfl).trans (ite2 ?_ ?_)
  · exact rfl
  · refine (r_ic (dk D309c5 22 rfl) ci0).trans ?_
    exact r_rez (dk D309c5 23 rfl) rt309 (by decide)
theorem E309_416 {d sl : Nat} {p : Nat → Nat} {I : Nat → Nat → Int32} {J : Nat → Nat → Int64} (i : Int32) : ev (d + 1) 309 416 [.ref 0, .ref 1, .ref 46, .int i] [] (S sl p I J) = ck (ixb sl (i + 1)) (ck (ixb sl (i + 2)) (ck (ixb sl (i + 3)) (ck (ixb sl (i + 4)) (evK (d + 1) 309 440 [.ref 0, .ref 1, .ref 46, .int i] [] (den d 124 [.ref 1, .int (I 0 (Int32.toNatClampNeg (i + 1))), .int (I 0 (Int32.toNatClampNeg (i + 2))), .int (I 0 (Int32.toNatClampNeg (i + 3))), .int (I 0 (Int32.toNatClampNeg (i + 4)))] (S sl p I J)))))) := by
  refine (r_aln (dk D309c5 24 rfl) rfl).trans ?_
  refine (r_aln (dk D309c5 25 rfl) rfl).trans ?_
  refine (r_iln (dk D309c5 26 rfl) rfl).trans ?_
  refine (r_ic (dk D309c5 27 rfl) ci1).trans ?_
  refine (r_iadd (dk D309c5 28 rfl)).trans ?_
  refine (r_scr (dk D309c5 29 rfl)).trans (ck3 fun g1 => ?_)
  refine (r_aln (dk D309c6 0 rfl) rfl).trans ?_
  refine (r_iln (dk D309c6 1 rfl) rfl).trans ?_
  refine (r_ic (dk D309c6 2 rfl) ci2).trans ?_
  refine (r_iadd (dk D309c6 3 rfl)).trans ?_
  refine (r_scr (dk D309c6 4 rfl)).trans (ck3 fun g2 => ?_)
  refine (r_aln (dk D309c6 5 rfl) rfl).trans ?_
  refine (r_iln (dk D309c6 6 rfl) rfl).trans ?_
  refine (r_ic (dk D309c6 7 rfl) ci3).trans ?_
  refine (r_iadd (dk D309c6 8 rfl)).trans ?_
  refine (r_scr (dk D309c6 9 rfl)).trans (ck3 fun g3 => ?_)
  refine (r_aln (dk D309c6 10 rfl) rfl).trans ?_
  refine (r_iln (dk D309c6 11 rfl) rfl).trans ?_
  refine (r_ic (dk D309c6 12 rfl) ci4).trans ?_
  refine (r_iadd (dk D309c6 13 rfl)).trans ?_
  refine (r_scr (dk D309c6 14 rfl)).trans (ck3 fun g4 => ?_)
  exact r_cv (dk D309c6 15 rfl) ow309 c13_42 mf124 (Nat.le_of_ble_eq_true rfl) rfl rfl (Nat.le_of_ble_eq_true rfl) (Nat.le_of_ble_eq_true rfl) ob_1
theorem E309_440 {d sl : Nat} {p : Nat → Nat} {I : Nat → Nat → Int32} {J : Nat → Nat → Int64} (i : Int32) (x : Int32) : ev (d + 1) 309 440 [.ref 0, .ref 1, .ref 46, .int i] [.int x] (S sl p I J) = ck (ixb sl (i + 1)) (ck (ixb sl (i + 2)) (ck (ixb sl (i + 3)) (ck (ixb sl (i + 4)) (evK (d + 1) 309 464 [.ref 0, .ref 1, .ref 46, .int i] [.int x] (den d 206 [.ref 46, .int (I 0 (Int32.toNatClampNeg (i + 1))), .int (I 0 (Int32.toNatClampNeg (i + 2))), .int (I 0 (Int32.toNatClampNeg (i + 3))), .int (I 0 (Int32.toNatClampNeg (i + 4)))] (S sl p I J)))))) := by
  refine (r_aln (dk D309c6 16 rfl) rfl).trans ?_
  refine (r_aln (dk D309c6 17 rfl) rfl).trans ?_
  refine (r_iln (dk D309c6 18 rfl) rfl).trans ?_
  refine (r_ic (dk D309c6 19 rfl) ci1).trans ?_
  refine (r_iadd (dk D309c6 20 rfl)).trans ?_
  refine (r_scr (dk D309c6 21 rfl)).trans (ck3 fun g1 => ?_)
  refine (r_aln (dk D309c6 22 rfl) rfl).trans ?_
  refine (r_iln (dk D309c6 23 rfl) rfl).trans ?_
  refine (r_ic (dk D309c6 24 rfl) ci2).trans ?_
  refine (r_iadd (dk D309c6 25 rfl)).trans ?_
  refine (r_scr (dk D309c6 26 rfl)).trans (ck3 fun g2 => ?_)
  refine (r_aln (dk D309c6 27 rfl) rfl).trans ?_
  refine (r_iln (dk D309c6 28 rfl) rfl).trans ?_
  refine (r_ic (dk D309c6 29 rfl) ci3).trans ?_
  refine (r_iadd (dk D309c7 0 rfl)).trans ?_
  refine (r_scr (dk D309c7 1 rfl)).trans (ck3 fun g3 => ?_)
  refine (r_aln (dk D309c7 2 rfl) rfl).trans ?_
  refine (r_iln (dk D309c7 3 rfl) rfl).trans ?_
  refine (r_ic (dk D309c7 4 rfl) ci4).trans ?_
  refine (r_iadd (dk D309c7 5 rfl)).trans ?_
  refine (r_scr (dk D309c7 6 rfl)).trans (ck3 fun g4 => ?_)
  exact r_cv (dk D309c7 7 rfl) ow309 c13_45 mf206 (Nat.le_of_ble_eq_true rfl) rfl rfl (Nat.le_of_ble_eq_true rfl) (Nat.le_of_ble_eq_true rfl) ob_46
theorem E309_464 {d sl : Nat} {p : Nat → Nat} {I : Nat → Nat → Int32} {J : Nat → Nat → Int64} (i : Int32) (z x : Int32) : ev d 309 464 [.ref 0, .ref 1, .ref 46, .int i] [.int z, .int x] (S sl p I J) = (if x = z then ev d 309 1763 [.ref 0, .ref 1, .ref 46, .int i] [] (S sl p I J) else some (some (.int 0), (S sl p I J))) := by
  refine (r_eq (dk D309c7 8 rfl) rfl).trans (ite2 ?_ ?_)
  · exact rfl
  · refine (r_ic (dk D309c7 9 rfl) ci0).trans ?_
    exact r_rez (dk D309c7 10 rfl) rt309 (by decide)
theorem E309_469 {d sl : Nat} {p : Nat → Nat} {I : Nat → Nat → Int32} {J : Nat → Nat → Int64} (i : Int32) : ev (d + 1) 309 469 [.ref 0, .ref 1, .ref 46, .int i] [] (S sl p I J) = ck (ixb sl (i + 1)) (evK (d + 1) 309 478 [.ref 0, .ref 1, .ref 46, .int i] [] (den d 125 [.ref 1, .int (I 0 (Int32.toNatClampNeg (i + 1)))] (S sl p I J))) := by
  refine (r_aln (dk D309c7 11 rfl) rfl).trans ?_
  refine (r_aln (dk D309c7 12 rfl) rfl).trans ?_
  refine (r_iln (dk D309c7 13 rfl) rfl).trans ?_
  refine (r_ic (dk D309c7 14 rfl) ci1).trans ?_
  refine (r_iadd (dk D309c7 15 rfl)).trans ?_
  refine (r_scr (dk D309c7 16 rfl)).trans (ck3 fun g1 => ?_)
  exact r_cv (dk D309c7 17 rfl) ow309 c13_46 mf125 (Nat.le_of_ble_eq_true rfl) rfl rfl (Nat.le_of_ble_eq_true rfl) (Nat.le_of_ble_eq_true rfl) ob_1
theorem E309_478 {d sl : Nat} {p : Nat → Nat} {I : Nat → Nat → Int32} {J : Nat → Nat → Int64} (i : Int32) (x : Int32) : ev (d + 1) 309 478 [.ref 0, .ref 1, .ref 46, .int i] [.int x] (S sl p I J) = ck (ixb sl (i + 1)) (evK (d + 1) 309 487 [.ref 0, .ref 1, .ref 46, .int i] [.int x] (den d 238 [.ref 46, .int (I 0 (Int32.toNatClampNeg (i + 1)))] (S sl p I J))) := by
  refine (r_aln (dk D309c7 18 rfl) rfl).trans ?_
  refine (r_aln (dk D309c7 19 rfl) rfl).trans ?_
  refine (r_iln (dk D309c7 20 rfl) rfl).trans ?_
  refine (r_ic (dk D309c7 21 rfl) ci1).trans ?_
  refine (r_iadd (dk D309c7 22 rfl)).trans ?_
  refine (r_scr (dk D309c7 23 rfl)).trans (ck3 fun g1 => ?_)
  exact r_cv (dk D309c7 24 rfl) ow309 c13_49 mf238 (Nat.le_of_ble_eq_true rfl) rfl rfl (Nat.le_of_ble_eq_true rfl) (Nat.le_of_ble_eq_true rfl) ob_46
theorem E309_487 {d sl : Nat} {p : Nat → Nat} {I : Nat → Nat → Int32} {J : Nat → Nat → Int64} (i : Int32) (z x : Int32) : ev d 309 487 [.ref 0, .ref 1, .ref 46, .int i] [.int z, .int x] (S sl p I J) = (if x = z then ev d 309 1763 [.ref 0, .ref 1, .ref 46, .int i] [] (S sl p I J) else some (some (.int 0), (S sl p I J))) := by
  refine (r_eq (dk D309c7 25 rfl) rfl).trans (ite2 ?_ ?_)
  · exact rfl
  · refine (r_ic (dk D309c7 26 rfl) ci0).trans ?_
    exact r_rez (dk D309c7 27 rfl) rt309 (by decide)
theorem E309_492 {d sl : Nat} {p : Nat → Nat} {I : Nat → Nat → Int32} {J : Nat → Nat → Int64} (i : Int32) : ev (d + 1) 309 492 [.ref 0, .ref 1, .ref 46, .int i] [] (S sl p I J) = ck (ixb sl (i + 1)) (ck (ixb sl (i + 2)) (evK (d + 1) 309 506 [.ref 0, .ref 1, .ref 46, .int i] [] (den d 126 [.ref 1, .int (I 0 (Int32.toNatClampNeg (i + 1))), .int (I 0 (Int32.toNatClampNeg (i + 2)))] (S sl p I J)))) := by
  refine (r_aln (dk D309c7 28 rfl) rfl).trans ?_
  refine (r_aln (dk D309c7 29 rfl) rfl).trans ?_
  refine (r_iln (dk D309c8 0 rfl) rfl).trans ?_
  refine (r_ic (dk D309c8 1 rfl) ci1).trans ?_
  refine (r_iadd (dk D309c8 2 rfl)).trans ?_
  refine (r_scr (dk D309c8 3 rfl)).trans (ck3 fun g1 => ?_)
  refine (r_aln (dk D309c8 4 rfl) rfl).trans ?_
  refine (r_iln (dk D309c8 5 rfl) rfl).trans ?_
  refine (r_ic (dk D309c8 6 rfl) ci2).trans ?_
  refine (r_iadd (dk D309c8 7 rfl)).trans ?_
  refine (r_scr (dk D309c8 8 rfl)).trans (ck3 fun g2 => ?_)
  exact r_cv (dk D309c8 9 rfl) ow309 c13_50 mf126 (Nat.le_of_ble_eq_true rfl) rfl rfl (Nat.le_of_ble_eq_true rfl) (Nat.le_of_ble_eq_true rfl) ob_1
theorem E309_506 {d sl : Nat} {p : Nat → Nat} {I : Nat → Nat → Int32} {J : Nat → Nat → Int64} (i : Int32) (x : Int32) : ev (d + 1) 309 506 [.ref 0, .ref 1, .ref 46, .int i] [.int x] (S sl p I J) = ck (ixb sl (i + 1)) (ck (ixb sl (i + 2)) (evK (d + 1) 309 520 [.ref 0, .ref 1, .ref 46, .int i] [.int x] (den d 240 [.ref 46, .int (I 0 (Int32.toNatClampNeg (i + 1))), .int (I 0 (Int32.toNatClampNeg (i + 2)))] (S sl p I J)))) := by
  refine (r_aln (dk D309c8 10 rfl) rfl).trans ?_
  refine (r_aln (dk D309c8 11 rfl) rfl).trans ?_
  refine (r_iln (dk D309c8 12 rfl) rfl).trans ?_
  refine (r_ic (dk D309c8 13 rfl) ci1).trans ?_
  refine (r_iadd (dk D309c8 14 rfl)).trans ?_
  refine (r_scr (dk D309c8 15 rfl)).trans (ck3 fun g1 => ?_)
  refine (r_aln (dk D309c8 16 rfl) rfl).trans ?_
  refine (r_iln (dk D309c8 17 rfl) rfl).trans ?_
  refine (r_ic (dk D309c8 18 rfl) ci2).trans ?_
  refine (r_iadd (dk D309c8 19 rfl)).trans ?_
  refine (r_scr (dk D309c8 20 rfl)).trans (ck3 fun g2 => ?_)
  exact r_cv (dk D309c8 21 rfl) ow309 c13_53 mf240 (Nat.le_of_ble_eq_true rfl) rfl rfl (Nat.le_of_ble_eq_true rfl) (Nat.le_of_ble_eq_true rfl) ob_46
theorem E309_520 {d sl : Nat} {p : Nat → Nat} {I : Nat → Nat → Int32} {J : Nat → Nat → Int64} (i : Int32) (z x : Int32) : ev d 309 520 [.ref 0, .ref 1, .ref 46, .int i] [.int z, .int x] (S sl p I J) = (if x = z then ev d 309 1763 [.ref 0, .ref 1, .ref 46, .int i] [] (S sl p I J) else some (some (.int 0), (S sl p I J))) := by
  refine (r_eq (dk D309c8 22 rfl) rfl).trans (ite2 ?_ ?_)
  · exact rfl
  · refine (r_ic (dk D309c8 23 rfl) ci0).trans ?_
    exact r_rez (dk D309c8 24 rfl) rt309 (by decide)
theorem E309_525 {d sl : Nat} {p : Nat → Nat} {I : Nat → Nat → Int32} {J : Nat → Nat → Int64} (i : Int32) : ev (d + 1) 309 525 [.ref 0, .ref 1, .ref 46, .int i] [] (S sl p I J) = ck (ixb sl (i + 1)) (ck (ixb sl (i + 2)) (evK (d + 1) 309 539 [.ref 0, .ref 1, .ref 46, .int i] [] (den d 127 [.ref 1, .int (I 0 (Int32.toNatClampNeg (i + 1))), .int (I 0 (Int32.toNatClampNeg (i + 2)))] (S sl p I J)))) := by
  refine (r_aln (dk D309c8 25 rfl) rfl).trans ?_
  refine (r_aln (dk D309c8 26 rfl) rfl).trans ?_
  refine (r_iln (dk D309c8 27 rfl) rfl).trans ?_
  refine (r_ic (dk D309c8 28 rfl) ci1).trans ?_
  refine (r_iadd (dk D309c8 29 rfl)).trans ?_
  refine (r_scr (dk D309c9 0 rfl)).trans (ck3 fun g1 => ?_)
  refine (r_aln (dk D309c9 1 rfl) rfl).trans ?_
  refine (r_iln (dk D309c9 2 rfl) rfl).trans ?_
  refine (r_ic (dk D309c9 3 rfl) ci2).trans ?_
  refine (r_iadd (dk D309c9 4 rfl)).trans ?_
  refine (r_scr (dk D309c9 5 rfl)).trans (ck3 fun g2 => ?_)
  exact r_cv (dk D309c9 6 rfl) ow309 c13_54 mf127 (Nat.le_of_ble_eq_true rfl) rfl rfl (Nat.le_of_ble_eq_true rfl) (Nat.le_of_ble_eq_true rfl) ob_1
theorem E309_539 {d sl : Nat} {p : Nat → Nat} {I : Nat → Nat → Int32} {J : Nat → Nat → Int64} (i : Int32) (x : Int32) : ev (d + 1) 309 539 [.ref 0, .ref 1, .ref 46, .int i] [.int x] (S sl p I J) = ck (ixb sl (i + 1)) (ck (ixb sl (i + 2)) (evK (d + 1) 309 553 [.ref 0, .ref 1, .ref 46, .int i] [.int x] (den d 241 [.ref 46, .int (I 0 (Int32.toNatClampNeg (i + 1))), .int (I 0 (Int32.toNatClampNeg (i + 2)))] (S sl p I J)))) := by
  refine (r_aln (dk D309c9 7 rfl) rfl).trans ?_
  refine (r_aln (dk D309c9 8 rfl) rfl).trans ?_
  refine (r_iln (dk D309c9 9 rfl) rfl).trans ?_
  refine (r_ic (dk D309c9 10 rfl) ci1).trans ?_
  refine (r_iadd (dk D309c9 11 rfl)).trans ?_
  refine (r_scr (dk D309c9 12 rfl)).trans (ck3 fun g1 => ?_)
  refine (r_aln (dk D309c9 13 rfl) rfl).trans ?_
  refine (r_iln (dk D309c9 14 rfl) rfl).trans ?_
  refine (r_ic (dk D309c9 15 rfl) ci2).trans ?_
  refine (r_iadd (dk D309c9 16 rfl)).trans ?_
  refine (r_scr (dk D309c9 17 rfl)).trans (ck3 fun g2 => ?_)
  exact r_cv (dk D309c9 18 rfl) ow309 c13_57 mf241 (Nat.le_of_ble_eq_true rfl) rfl rfl (Nat.le_of_ble_eq_true rfl) (Nat.le_of_ble_eq_true rfl) ob_46
theorem E309_553 {d sl : Nat} {p : Nat → Nat} {I : Nat → Nat → Int32} {J : Nat → Nat → Int64} (i : Int32) (z x : Int32) : ev d 309 553 [.ref 0, .ref 1, .ref 46, .int i] [.int z, .int x] (S sl p I J) = (if x = z then ev d 309 1763 [.ref 0, .ref 1, .ref 46, .int i] [] (S sl p I J) else some (some (.int 0), (S sl p I J))) := by
  refine (r_eq (dk D309c9 19 rfl) rfl).trans (ite2 ?_ ?_)
  · exact rfl
  · refine (r_ic (dk D309c9 20 rfl) ci0).trans ?_
    exact r_rez (dk D309c9 21 rfl) rt309 (by decide)
theorem E309_558 {d sl : Nat} {p : Nat → Nat} {I : Nat → Nat → Int32} {J : Nat → Nat → Int64} (i : Int32) : ev (d + 1) 309 558 [.ref 0, .ref 1, .ref 46, .int i] [] (S sl p I J) = ck (ixb sl (i + 1)) (ck (ixb sl (i + 2)) (evK (d + 1) 309 572 [.ref 0, .ref 1, .ref 46, .int i] [] (den d 128 [.ref 1, .int (I 0 (Int32.toNatClampNeg (i + 1))), .int (I 0 (Int32.toNatClampNeg (i + 2)))] (S sl p I J)))) := by
  refine (r_aln (dk D309c9 22 rfl) rfl).trans ?_
  refine (r_aln (dk D309c9 23 rfl) rfl).trans ?_
  refine (r_iln (dk D309c9 24 rfl) rfl).trans ?_
  refine (r_ic (dk D309c9 25 rfl) ci1).trans ?_
  refine (r_iadd (dk D309c9 26 rfl)).trans ?_
  refine (r_scr (dk D309c9 27 rfl)).trans (ck3 fun g1 => ?_)
  refine (r_aln (dk D309c9 28 rfl) rfl).trans ?_
  refine (r_iln (dk D309c9 29 rfl) rfl).trans ?_
  refine (r_ic (dk D309c10 0 rfl) ci2).trans ?_
  refine (r_iadd (dk D309c10 1 rfl)).trans ?_
  refine (r_scr (dk D309c10 2 rfl)).trans (ck3 fun g2 => ?_)
  exact r_cv (dk D309c10 3 rfl) ow309 c13_58 mf128 (Nat.le_of_ble_eq_true rfl) rfl rfl (Nat.le_of_ble_eq_true rfl) (Nat.le_of_ble_eq_true rfl) ob_1
theorem E309_572 {d sl : Nat} {p : Nat → Nat} {I : Nat → Nat → Int32} {J : Nat → Nat → Int64} (i : Int32) (x : Int32) : ev (d + 1) 309 572 [.ref 0, .ref 1, .ref 46, .int i] [.int x] (S sl p I J) = ck (ixb sl (i + 1)) (ck (ixb sl (i + 2)) (evK (d + 1) 309 586 [.ref 0, .ref 1, .ref 46, .int i] [.int x] (den d 242 [.ref 46, .int (I 0 (Int32.toNatClampNeg (i + 1))), .int (I 0 (Int32.toNatClampNeg (i + 2)))] (S sl p I J)))) := by
  refine (r_aln (dk D309c10 4 rfl) rfl).trans ?_
  refine (r_aln (dk D309c10 5 rfl) rfl).trans ?_
  refine (r_iln (dk D309c10 6 rfl) rfl).trans ?_
  refine (r_ic (dk D309c10 7 rfl) ci1).trans ?_
  refine (r_iadd (dk D309c10 8 rfl)).trans ?_
  refine (r_scr (dk D309c10 9 rfl)).trans (ck3 fun g1 => ?_)
  refine (r_aln (dk D309c10 10 rfl) rfl).trans ?_
  refine (r_iln (dk D309c10 11 rfl) rfl).trans ?_
  refine (r_ic (dk D309c10 12 rfl) ci2).trans ?_
  refine (r_iadd (dk D309c10 13 rfl)).trans ?_
  refine (r_scr (dk D309c10 14 rfl)).trans (ck3 fun g2 => ?_)
  exact r_cv (dk D309c10 15 rfl) ow309 c13_61 mf242 (Nat.le_of_ble_eq_true rfl) rfl rfl (Nat.le_of_ble_eq_true rfl) (Nat.le_of_ble_eq_true rfl) ob_46
theorem E309_586 {d sl : Nat} {p : Nat → Nat} {I : Nat → Nat → Int32} {J : Nat → Nat → Int64} (i : Int32) (z x : Int32) : ev d 309 586 [.ref 0, .ref 1, .ref 46, .int i] [.int z, .int x] (S sl p I J) = (if x = z then ev d 309 1763 [.ref 0, .ref 1, .ref 46, .int i] [] (S sl p I J) else some (some (.int 0), (S sl p I J))) := by
  refine (r_eq (dk D309c10 16 rfl) rfl).trans (ite2 ?_ ?_)
  · exact rfl
  · refine (r_ic (dk D309c10 17 rfl) ci0).trans ?_
    exact r_rez (dk D309c10 18 rfl) rt309 (by decide)
theorem E309_591 {d sl : Nat} {p : Nat → Nat} {I : Nat → Nat → Int32} {J : Nat → Nat → Int64} (i : Int32) : ev (d + 1) 309 591 [.ref 0, .ref 1, .ref 46, .int i] [] (S sl p I J) = ck (ixb sl (i + 1)) (ck (ixb sl (i + 2)) (evK (d + 1) 309 605 [.ref 0, .ref 1, .ref 46, .int i] [] (den d 129 [.ref 1, .int (I 0 (Int32.toNatClampNeg (i + 1))), .int (I 0 (Int32.toNatClampNeg (i + 2)))] (S sl p I J)))) := by
  refine (r_aln (dk D309c10 19 rfl) rfl).trans ?_
  refine (r_aln (dk D309c10 20 rfl) rfl).trans ?_
  refine (r_iln (dk D309c10 21 rfl) rfl).trans ?_
  refine (r_ic (dk D309c10 22 rfl) ci1).trans ?_
  refine (r_iadd (dk D309c10 23 rfl)).trans ?_
  refine (r_scr (dk D309c10 24 rfl)).trans (ck3 fun g1 => ?_)
  refine (r_aln (dk D309c10 25 rfl) rfl).trans ?_
  refine (r_iln (dk D309c10 26 rfl) rfl).trans ?_
  refine (r_ic (dk D309c10 27 rfl) ci2).trans ?_
  refine (r_iadd (dk D309c10 28 rfl)).trans ?_
  refine (r_scr (dk D309c10 29 rfl)).trans (ck3 fun g2 => ?_)
  exact r_cv (dk D309c11 0 rfl) ow309 c13_62 mf129 (Nat.le_of_ble_eq_true rfl) rfl rfl (Nat.le_of_ble_eq_true rfl) (Nat.le_of_ble_eq_true rfl) ob_1
theorem E309_605 {d sl : Nat} {p : Nat → Nat} {I : Nat → Nat → Int32} {J : Nat → Nat → Int64} (i : Int32) (x : Int32) : ev (d + 1) 309 605 [.ref 0, .ref 1, .ref 46, .int i] [.int x] (S sl p I J) = ck (ixb sl (i + 1)) (ck (ixb sl (i + 2)) (evK (d + 1) 309 619 [.ref 0, .ref 1, .ref 46, .int i] [.int x] (den d 243 [.ref 46, .int (I 0 (Int32.toNatClampNeg (i + 1))), .int (I 0 (Int32.toNatClampNeg (i + 2)))] (S sl p I J)))) := by
  refine (r_aln (dk D309c11 1 rfl) rfl).trans ?_
  refine (r_aln (dk D309c11 2 rfl) rfl).trans ?_
  refine (r_iln (dk D309c11 3 rfl) rfl).trans ?_
  refine (r_ic (dk D309c11 4 rfl) ci1).trans ?_
  refine (r_iadd (dk D309c11 5 rfl)).trans ?_
  refine (r_scr (dk D309c11 6 rfl)).trans (ck3 fun g1 => ?_)
  refine (r_aln (dk D309c11 7 rfl) rfl).trans ?_
  refine (r_iln (dk D309c11 8 rfl) rfl).trans ?_
  refine (r_ic (dk D309c11 9 rfl) ci2).trans ?_
  refine (r_iadd (dk D309c11 10 rfl)).trans ?_
  refine (r_scr (dk D309c11 11 rfl)).trans (ck3 fun g2 => ?_)
  exact r_cv (dk D309c11 12 rfl) ow309 c13_65 mf243 (Nat.le_of_ble_eq_true rfl) rfl rfl (Nat.le_of_ble_eq_true rfl) (Nat.le_of_ble_eq_true rfl) ob_46
theorem E309_619 {d sl : Nat} {p : Nat → Nat} {I : Nat → Nat → Int32} {J : Nat → Nat → Int64} (i : Int32) (z x : Int32) : ev d 309 619 [.ref 0, .ref 1, .ref 46, .int i] [.int z, .int x] (S sl p I J) = (if x = z then ev d 309 1763 [.ref 0, .ref 1, .ref 46, .int i] [] (S sl p I J) else some (some (.int 0), (S sl p I J))) := by
  refine (r_eq (dk D309c11 13 rfl) rfl).trans (ite2 ?_ ?_)
  · exact rfl
  · refine (r_ic (dk D309c11 14 rfl) ci0).trans ?_
    exact r_rez (dk D309c11 15 rfl) rt309 (by decide)
theorem E309_624 {d sl : Nat} {p : Nat → Nat} {I : Nat → Nat → Int32} {J : Nat → Nat → Int64} (i : Int32) : ev (d + 1) 309 624 [.ref 0, .ref 1, .ref 46, .int i] [] (S sl p I J) = ck (ixb sl (i + 1)) (ck (ixb sl (i + 2)) (evK (d + 1) 309 638 [.ref 0, .ref 1, .ref 46, .int i] [] (den d 130 [.ref 1, .int (I 0 (Int32.toNatClampNeg (i + 1))), .int (I 0 (Int32.toNatClampNeg (i + 2)))] (S sl p I J)))) := by
  refine (r_aln (dk D309c11 16 rfl) rfl).trans ?_
  refine (r_aln (dk D309c11 17 rfl) rfl).trans ?_
  refine (r_iln (dk D309c11 18 rfl) rfl).trans ?_
  refine (r_ic (dk D309c11 19 rfl) ci1).trans ?_
  refine (r_iadd (dk D309c11 20 rfl)).trans ?_
  refine (r_scr (dk D309c11 21 rfl)).trans (ck3 fun g1 => ?_)
  refine (r_aln (dk D309c11 22 rfl) rfl).trans ?_
  refine (r_iln (dk D309c11 23 rfl) rfl).trans ?_
  refine (r_ic (dk D309c11 24 rfl) ci2).trans ?_
  refine (r_iadd (dk D309c11 25 rfl)).trans ?_
  refine (r_scr (dk D309c11 26 rfl)).trans (ck3 fun g2 => ?_)
  exact r_cv (dk D309c11 27 rfl) ow309 c13_66 mf130 (Nat.le_of_ble_eq_true rfl) rfl rfl (Nat.le_of_ble_eq_true rfl) (Nat.le_of_ble_eq_true rfl) ob_1
theorem E309_638 {d sl : Nat} {p : Nat → Nat} {I : Nat → Nat → Int32} {J : Nat → Nat → Int64} (i : Int32) (x : Int64) : ev (d + 1) 309 638 [.ref 0, .ref 1, .ref 46, .int i] [.long x] (S sl p I J) = ck (ixb sl (i + 1)) (ck (ixb sl (i + 2)) (evK (d + 1) 309 652 [.ref 0, .ref 1, .ref 46, .int i] [.long x] (den d 244 [.ref 46, .int (I 0 (Int32.toNatClampNeg (i + 1))), .int (I 0 (Int32.toNatClampNeg (i + 2)))] (S sl p I J)))) := by
  refine (r_aln (dk D309c11 28 rfl) rfl).trans ?_
  refine (r_aln (dk D309c11 29 rfl) rfl).trans ?_
  refine (r_iln (dk D309c12 0 rfl) rfl).trans ?_
  refine (r_ic (dk D309c12 1 rfl) ci1).trans ?_
  refine (r_iadd (dk D309c12 2 rfl)).trans ?_
  refine (r_scr (dk D309c12 3 rfl)).trans (ck3 fun g1 => ?_)
  refine (r_aln (dk D309c12 4 rfl) rfl).trans ?_
  refine (r_iln (dk D309c12 5 rfl) rfl).trans ?_
  refine (r_ic (dk D309c12 6 rfl) ci2).trans ?_
  refine (r_iadd (dk D309c12 7 rfl)).trans ?_
  refine (r_scr (dk D309c12 8 rfl)).trans (ck3 fun g2 => ?_)
  exact r_cv (dk D309c12 9 rfl) ow309 c13_70 mf244 (Nat.le_of_ble_eq_true rfl) rfl rfl (Nat.le_of_ble_eq_true rfl) (Nat.le_of_ble_eq_true rfl) ob_46
theorem E309_652 {d sl : Nat} {p : Nat → Nat} {I : Nat → Nat → Int32} {J : Nat → Nat → Int64} (i : Int32) (z x : Int64) : ev d 309 652 [.ref 0, .ref 1, .ref 46, .int i] [.long z, .long x] (S sl p I J) = (if x = z then ev d 309 1763 [.ref 0, .ref 1, .ref 46, .int i] [] (S sl p I J) else some (some (.int 0), (S sl p I J))) := by
  refine (r_jeq (dk D309c12 10 rfl) (dk D309c12 11 rfl) rfl).trans (ite2 ?_ ?_)
  · exact rfl
  · refine (r_ic (dk D309c12 12 rfl) ci0).trans ?_
    exact r_rez (dk D309c12 13 rfl) rt309 (by decide)
theorem E309_658 {d sl : Nat} {p : Nat → Nat} {I : Nat → Nat → Int32} {J : Nat → Nat → Int64} (i : Int32) : ev (d + 1) 309 658 [.ref 0, .ref 1, .ref 46, .int i] [] (S sl p I J) = ck (ixb sl (i + 1)) (ck (ixb sl (i + 2)) (evK (d + 1) 309 672 [.ref 0, .ref 1, .ref 46, .int i] [] (den d 131 [.ref 1, .int (I 0 (Int32.toNatClampNeg (i + 1))), .int (I 0 (Int32.toNatClampNeg (i + 2)))] (S sl p I J)))) := by
  refine (r_aln (dk D309c12 14 rfl) rfl).trans ?_
  refine (r_aln (dk D309c12 15 rfl) rfl).trans ?_
  refine (r_iln (dk D309c12 16 rfl) rfl).trans ?_
  refine (r_ic (dk D309c12 17 rfl) ci1).trans ?_
  refine (r_iadd (dk D309c12 18 rfl)).trans ?_
  refine (r_scr (dk D309c12 19 rfl)).trans (ck3 fun g1 => ?_)
  refine (r_aln (dk D309c12 20 rfl) rfl).trans ?_
  refine (r_iln (dk D309c12 21 rfl) rfl).trans ?_
  refine (r_ic (dk D309c12 22 rfl) ci2).trans ?_
  refine (r_iadd (dk D309c12 23 rfl)).trans ?_
  refine (r_scr (dk D309c12 24 rfl)).trans (ck3 fun g2 => ?_)
  exact r_cv (dk D309c12 25 rfl) ow309 c13_71 mf131 (Nat.le_of_ble_eq_true rfl) rfl rfl (Nat.le_of_ble_eq_true rfl) (Nat.le_of_ble_eq_true rfl) ob_1
theorem E309_672 {d sl : Nat} {p : Nat → Nat} {I : Nat → Nat → Int32} {J : Nat → Nat → Int64} (i : Int32) (x : Int32) : ev (d + 1) 309 672 [.ref 0, .ref 1, .ref 46, .int i] [.int x] (S sl p I J) = ck (ixb sl (i + 1)) (ck (ixb sl (i + 2)) (evK (d + 1) 309 686 [.ref 0, .ref 1, .ref 46, .int i] [.int x] (den d 246 [.ref 46, .int (I 0 (Int32.toNatClampNeg (i + 1))), .int (I 0 (Int32.toNatClampNeg (i + 2)))] (S sl p I J)))) := by
  refine (r_aln (dk D309c12 26 rfl) rfl).trans ?_
  refine (r_aln (dk D309c12 27 rfl) rfl).trans ?_
  refine (r_iln (dk D309c12 28 rfl) rfl).trans ?_
  refine (r_ic (dk D309c12 29 rfl) ci1).trans ?_
  refine (r_iadd (dk D309c13 0 rfl)).trans ?_
  refine (r_scr (dk D309c13 1 rfl)).trans (ck3 fun g1 => ?_)
  refine (r_aln (dk D309c13 2 rfl) rfl).trans ?_
  refine (r_iln (dk D309c13 3 rfl) rfl).trans ?_
  refine (r_ic (dk D309c13 4 rfl) ci2).trans ?_
  refine (r_iadd (dk D309c13 5 rfl)).trans ?_
  refine (r_scr (dk D309c13 6 rfl)).trans (ck3 fun g2 => ?_)
  exact r_cv (dk D309c13 7 rfl) ow309 c13_74 mf246 (Nat.le_of_ble_eq_true rfl) rfl rfl (Nat.le_of_ble_eq_true rfl) (Nat.le_of_ble_eq_true rfl) ob_46
theorem E309_686 {d sl : Nat} {p : Nat → Nat} {I : Nat → Nat → Int32} {J : Nat → Nat → Int64} (i : Int32) (z x : Int32) : ev d 309 686 [.ref 0, .ref 1, .ref 46, .int i] [.int z, .int x] (S sl p I J) = (if x = z then ev d 309 1763 [.ref 0, .ref 1, .ref 46, .int i] [] (S sl p I J) else some (some (.int 0), (S sl p I J))) := by
  refine (r_eq (dk D309c13 8 rfl) rfl).trans (ite2 ?_ ?_)
  · exact rfl
  · refine (r_ic (dk D309c13 9 rfl) ci0).trans ?_
    exact r_rez (dk D309c13 10 rfl) rt309 (by decide)
theorem E309_691 {d sl : Nat} {p : Nat → Nat} {I : Nat → Nat → Int32} {J : Nat → Nat → Int64} (i : Int32) : ev (d + 1) 309 691 [.ref 0, .ref 1, .ref 46, .int i] [] (S sl p I J) = ck (ixb sl (i + 1)) (evK (d + 1) 309 700 [.ref 0, .ref 1, .ref 46, .int i] [] (den d 132 [.ref 1, .int (I 0 (Int32.toNatClampNeg (i + 1)))] (S sl p I J))) := by
  refine (r_aln (dk D309c13 11 rfl) rfl).trans ?_
  refine (r_aln (dk D309c13 12 rfl) rfl).trans ?_
  refine (r_iln (dk D309c13 13 rfl) rfl).trans ?_
  refine (r_ic (dk D309c13 14 rfl) ci1).trans ?_
  refine (r_iadd (dk D309c13 15 rfl)).trans ?_
  refine (r_scr (dk D309c13 16 rfl)).trans (ck3 fun g1 => ?_)
  exact r_cv (dk D309c13 17 rfl) ow309 c13_75 mf132 (Nat.le_of_ble_eq_true rfl) rfl rfl (Nat.le_of_ble_eq_true rfl) (Nat.le_of_ble_eq_true rfl) ob_1
theorem E309_700 {d sl : Nat} {p : Nat → Nat} {I : Nat → Nat → Int32} {J : Nat → Nat → Int64} (i : Int32) (x : Int32) : ev (d + 1) 309 700 [.ref 0, .ref 1, .ref 46, .int i] [.int x] (S sl p I J) = ck (ixb sl (i + 1)) (evK (d + 1) 309 709 [.ref 0, .ref 1, .ref 46, .int i] [.int x] (den d 247 [.ref 46, .int (I 0 (Int32.toNatClampNeg (i + 1)))] (S sl p I J))) := by
  refine (r_aln (dk D309c13 18 rfl) rfl).trans ?_
  refine (r_aln (dk D309c13 19 rfl) rfl).trans ?_
  refine (r_iln (dk D309c13 20 rfl) rfl).trans ?_
  refine (r_ic (dk D309c13 21 rfl) ci1).trans ?_
  refine (r_iadd (dk D309c13 22 rfl)).trans ?_
  refine (r_scr (dk D309c13 23 rfl)).trans (ck3 fun g1 => ?_)
  exact r_cv (dk D309c13 24 rfl) ow309 c13_78 mf247 (Nat.le_of_ble_eq_true rfl) rfl rfl (Nat.le_of_ble_eq_true rfl) (Nat.le_of_ble_eq_true rfl) ob_46
theorem E309_709 {d sl : Nat} {p : Nat → Nat} {I : Nat → Nat → Int32} {J : Nat → Nat → Int64} (i : Int32) (z x : Int32) : ev d 309 709 [.ref 0, .ref 1, .ref 46, .int i] [.int z, .int x] (S sl p I J) = (if x = z then ev d 309 1763 [.ref 0, .ref 1, .ref 46, .int i] [] (S sl p I J) else some (some (.int 0), (S sl p I J))) := by
  refine (r_eq (dk D309c13 25 rfl) rfl).trans (ite2 ?_ ?_)
  · exact rfl
  · refine (r_ic (dk D309c13 26 rfl) ci0).trans ?_
    exact r_rez (dk D309c13 27 rfl) rt309 (by decide)
theorem E309_714 {d sl : Nat} {p : Nat → Nat} {I : Nat → Nat → Int32} {J : Nat → Nat → Int64} (i : Int32) : ev (d + 1) 309 714 [.ref 0, .ref 1, .ref 46, .int i] [] (S sl p I J) = ck (ixb sl (i + 1)) (ck (ixb sl (i + 2)) (evK (d + 1) 309 728 [.ref 0, .ref 1, .ref 46, .int i] [] (den d 133 [.ref 1, .int (I 0 (Int32.toNatClampNeg (i + 1))), .int (I 0 (Int32.toNatClampNeg (i + 2)))] (S sl p I J)))) := by
  refine (r_aln (dk D309c13 28 rfl) rfl).trans ?_
  refine (r_aln (dk D309c13 29 rfl) rfl).trans ?_
  refine (r_iln (dk D309c14 0 rfl) rfl).trans ?_
  refine (r_ic (dk D309c14 1 rfl) ci1).trans ?_
  refine (r_iadd (dk D309c14 2 rfl)).trans ?_
  refine (r_scr (dk D309c14 3 rfl)).trans (ck3 fun g1 => ?_)
  refine (r_aln (dk D309c14 4 rfl) rfl).trans ?_
  refine (r_iln (dk D309c14 5 rfl) rfl).trans ?_
  refine (r_ic (dk D309c14 6 rfl) ci2).trans ?_
  refine (r_iadd (dk D309c14 7 rfl)).trans ?_
  refine (r_scr (dk D309c14 8 rfl)).trans (ck3 fun g2 => ?_)
  exact r_cv (dk D309c14 9 rfl) ow309 c13_79 mf133 (Nat.le_of_ble_eq_true rfl) rfl rfl (Nat.le_of_ble_eq_true rfl) (Nat.le_of_ble_eq_true rfl) ob_1
theorem E309_728 {d sl : Nat} {p : Nat → Nat} {I : Nat → Nat → Int32} {J : Nat → Nat → Int64} (i : Int32) (x : Int32) : ev (d + 1) 309 728 [.ref 0, .ref 1, .ref 46, .int i] [.int x] (S sl p I J) = ck (ixb sl (i + 1)) (ck (ixb sl (i + 2)) (evK (d + 1) 309 742 [.ref 0, .ref 1, .ref 46, .int i] [.int x] (den d 249 [.ref 46, .int (I 0 (Int32.toNatClampNeg (i + 1))), .int (I 0 (Int32.toNatClampNeg (i + 2)))] (S sl p I J)))) := by
  refine (r_aln (dk D309c14 10 rfl) rfl).trans ?_
  refine (r_aln (dk D309c14 11 rfl) rfl).trans ?_
  refine (r_iln (dk D309c14 12 rfl) rfl).trans ?_
  refine (r_ic (dk D309c14 13 rfl) ci1).trans ?_
  refine (r_iadd (dk D309c14 14 rfl)).trans ?_
  refine (r_scr (dk D309c14 15 rfl)).trans (ck3 fun g1 => ?_)
  refine (r_aln (dk D309c14 16 rfl) rfl).trans ?_
  refine (r_iln (dk D309c14 17 rfl) rfl).trans ?_
  refine (r_ic (dk D309c14 18 rfl) ci2).trans ?_
  refine (r_iadd (dk D309c14 19 rfl)).trans ?_
  refine (r_scr (dk D309c14 20 rfl)).trans (ck3 fun g2 => ?_)
  exact r_cv (dk D309c14 21 rfl) ow309 c13_82 mf249 (Nat.le_of_ble_eq_true rfl) rfl rfl (Nat.le_of_ble_eq_true rfl) (Nat.le_of_ble_eq_true rfl) ob_46
theorem E309_742 {d sl : Nat} {p : Nat → Nat} {I : Nat → Nat → Int32} {J : Nat → Nat → Int64} (i : Int32) (z x : Int32) : ev d 309 742 [.ref 0, .ref 1, .ref 46, .int i] [.int z, .int x] (S sl p I J) = (if x = z then ev d 309 1763 [.ref 0, .ref 1, .ref 46, .int i] [] (S sl p I J) else some (some (.int 0), (S sl p I J))) := by
  refine (r_eq (dk D309c14 22 rfl) rfl).trans (ite2 ?_ ?_)
  · exact rfl
  · refine (r_ic (dk D309c14 23 rfl) ci0).trans ?_
    exact r_rez (dk D309c14 24 rfl) rt309 (by decide)
theorem E309_747 {d sl : Nat} {p : Nat → Nat} {I : Nat → Nat → Int32} {J : Nat → Nat → Int64} (i : Int32) : ev (d + 1) 309 747 [.ref 0, .ref 1, .ref 46, .int i] [] (S sl p I J) = ck (ixb sl (i + 1)) (ck (ixb sl (i + 2)) (evK (d + 1) 309 761 [.ref 0, .ref 1, .ref 46, .int i] [] (den d 134 [.ref 1, .int (I 0 (Int32.toNatClampNeg (i + 1))), .int (I 0 (Int32.toNatClampNeg (i + 2)))] (S sl p I J)))) := by
  refine (r_aln (dk D309c14 25 rfl) rfl).trans ?_
  refine (r_aln (dk D309c14 26 rfl) rfl).trans ?_
  refine (r_iln (dk D309c14 27 rfl) rfl).trans ?_
  refine (r_ic (dk D309c14 28 rfl) ci1).trans ?_
  refine (r_iadd (dk D309c14 29 rfl)).trans ?_
  refine (r_scr (dk D309c15 0 rfl)).trans (ck3 fun g1 => ?_)
  refine (r_aln (dk D309c15 1 rfl) rfl).trans ?_
  refine (r_iln (dk D309c15 2 rfl) rfl).trans ?_
  refine (r_ic (dk D309c15 3 rfl) ci2).trans ?_
  refine (r_iadd (dk D309c15 4 rfl)).trans ?_
  refine (r_scr (dk D309c15 5 rfl)).trans (ck3 fun g2 => ?_)
  exact r_cv (dk D309c15 6 rfl) ow309 c13_83 mf134 (Nat.le_of_ble_eq_true rfl) rfl rfl (Nat.le_of_ble_eq_true rfl) (Nat.le_of_ble_eq_true rfl) ob_1
theorem E309_761 {d sl : Nat} {p : Nat → Nat} {I : Nat → Nat → Int32} {J : Nat → Nat → Int64} (i : Int32) (x : Int32) : ev (d + 1) 309 761 [.ref 0, .ref 1, .ref 46, .int i] [.int x] (S sl p I J) = ck (ixb sl (i + 1)) (ck (ixb sl (i + 2)) (evK (d + 1) 309 775 [.ref 0, .ref 1, .ref 46, .int i] [.int x] (den d 250 [.ref 46, .int (I 0 (Int32.toNatClampNeg (i + 1))), .int (I 0 (Int32.toNatClampNeg (i + 2)))] (S sl p I J)))) := by
  refine (r_aln (dk D309c15 7 rfl) rfl).trans ?_
  refine (r_aln (dk D309c15 8 rfl) rfl).trans ?_
  refine (r_iln (dk D309c15 9 rfl) rfl).trans ?_
  refine (r_ic (dk D309c15 10 rfl) ci1).trans ?_
  refine (r_iadd (dk D309c15 11 rfl)).trans ?_
  refine (r_scr (dk D309c15 12 rfl)).trans (ck3 fun g1 => ?_)
  refine (r_aln (dk D309c15 13 rfl) rfl).trans ?_
  refine (r_iln (dk D309c15 14 rfl) rfl).trans ?_
  refine (r_ic (dk D309c15 15 rfl) ci2).trans ?_
  refine (r_iadd (dk D309c15 16 rfl)).trans ?_
  refine (r_scr (dk D309c15 17 rfl)).trans (ck3 fun g2 => ?_)
  exact r_cv (dk D309c15 18 rfl) ow309 c13_86 mf250 (Nat.le_of_ble_eq_true rfl) rfl rfl (Nat.le_of_ble_eq_true rfl) (Nat.le_of_ble_eq_true rfl) ob_46
theorem E309_775 {d sl : Nat} {p : Nat → Nat} {I : Nat → Nat → Int32} {J : Nat → Nat → Int64} (i : Int32) (z x : Int32) : ev d 309 775 [.ref 0, .ref 1, .ref 46, .int i] [.int z, .int x] (S sl p I J) = (if x = z then ev d 309 1763 [.ref 0, .ref 1, .ref 46, .int i] [] (S sl p I J) else some (some (.int 0), (S sl p I J))) := by
  refine (r_eq (dk D309c15 19 rfl) rfl).trans (ite2 ?_ ?_)
  · exact rfl
  · refine (r_ic (dk D309c15 20 rfl) ci0).trans ?_
    exact r_rez (dk D309c15 21 rfl) rt309 (by decide)
theorem E309_780 {d sl : Nat} {p : Nat → Nat} {I : Nat → Nat → Int32} {J : Nat → Nat → Int64} (i : Int32) : ev (d + 1) 309 780 [.ref 0, .ref 1, .ref 46, .int i] [] (S sl p I J) = ck (ixb sl (i + 1)) (ck (ixb sl (i + 2)) (ck (ixb sl (i + 3)) (evK (d + 1) 309 799 [.ref 0, .ref 1, .ref 46, .int i] [] (den d 135 [.ref 1, .int (I 0 (Int32.toNatClampNeg (i + 1))), .int (I 0 (Int32.toNatClampNeg (i + 2))), .int (I 0 (Int32.toNatClampNeg (i + 3)))] (S sl p I J))))) := by
  refine (r_aln (dk D309c15 22 rfl) rfl).trans ?_
  refine (r_aln (dk D309c15 23 rfl) rfl).trans ?_
  refine (r_iln (dk D309c15 24 rfl) rfl).trans ?_
  refine (r_ic (dk D309c15 25 rfl) ci1).trans ?_
  refine (r_iadd (dk D309c15 26 rfl)).trans ?_
  refine (r_scr (dk D309c15 27 rfl)).trans (ck3 fun g1 => ?_)
  refine (r_aln (dk D309c15 28 rfl) rfl).trans ?_
  refine (r_iln (dk D309c15 29 rfl) rfl).trans ?_
  refine (r_ic (dk D309c16 0 rfl) ci2).trans ?_
  refine (r_iadd (dk D309c16 1 rfl)).trans ?_
  refine (r_scr (dk D309c16 2 rfl)).trans (ck3 fun g2 => ?_)
  refine (r_aln (dk D309c16 3 rfl) rfl).trans ?_
  refine (r_iln (dk D309c16 4 rfl) rfl).trans ?_
  refine (r_ic (dk D309c16 5 rfl) ci3).trans ?_
  refine (r_iadd (dk D309c16 6 rfl)).trans ?_
  refine (r_scr (dk D309c16 7 rfl)).trans (ck3 fun g3 => ?_)
  exact r_cv (dk D309c16 8 rfl) ow309 c13_87 mf135 (Nat.le_of_ble_eq_true rfl) rfl rfl (Nat.le_of_ble_eq_true rfl) (Nat.le_of_ble_eq_true rfl) ob_1
theorem E309_799 {d sl : Nat} {p : Nat → Nat} {I : Nat → Nat → Int32} {J : Nat → Nat → Int64} (i : Int32) (x : Int32) : ev (d + 1) 309 799 [.ref 0, .ref 1, .ref 46, .int i] [.int x] (S sl p I J) = ck (ixb sl (i + 1)) (ck (ixb sl (i + 2)) (ck (ixb sl (i + 3)) (evK (d + 1) 309 818 [.ref 0, .ref 1, .ref 46, .int i] [.int x] (den d 251 [.ref 46, .int (I 0 (Int32.toNatClampNeg (i + 1))), .int (I 0 (Int32.toNatClampNeg (i + 2))), .int (I 0 (Int32.toNatClampNeg (i + 3)))] (S sl p I J))))) := by
  refine (r_aln (dk D309c16 9 rfl) rfl).trans ?_
  refine (r_aln (dk D309c16 10 rfl) rfl).trans ?_
  refine (r_iln (dk D309c16 11 rfl) rfl).trans ?_
  refine (r_ic (dk D309c16 12 rfl) ci1).trans ?_
  refine (r_iadd (dk D309c16 13 rfl)).trans ?_
  refine (r_scr (dk D309c16 14 rfl)).trans (ck3 fun g1 => ?_)
  refine (r_aln (dk D309c16 15 rfl) rfl).trans ?_
  refine (r_iln (dk D309c16 16 rfl) rfl).trans ?_
  refine (r_ic (dk D309c16 17 rfl) ci2).trans ?_
  refine (r_iadd (dk D309c16 18 rfl)).trans ?_
  refine (r_scr (dk D309c16 19 rfl)).trans (ck3 fun g2 => ?_)
  refine (r_aln (dk D309c16 20 rfl) rfl).trans ?_
  refine (r_iln (dk D309c16 21 rfl) rfl).trans ?_
  refine (r_ic (dk D309c16 22 rfl) ci3).trans ?_
  refine (r_iadd (dk D309c16 23 rfl)).trans ?_
  refine (r_scr (dk D309c16 24 rfl)).trans (ck3 fun g3 => ?_)
  exact r_cv (dk D309c16 25 rfl) ow309 c13_90 mf251 (Nat.le_of_ble_eq_true rfl) rfl rfl (Nat.le_of_ble_eq_true rfl) (Nat.le_of_ble_eq_true rfl) ob_46
theorem E309_818 {d sl : Nat} {p : Nat → Nat} {I : Nat → Nat → Int32} {J : Nat → Nat → Int64} (i : Int32) (z x : Int32) : ev d 309 818 [.ref 0, .ref 1, .ref 46, .int i] [.int z, .int x] (S sl p I J) = (if x = z then ev d 309 1763 [.ref 0, .ref 1, .ref 46, .int i] [] (S sl p I J) else some (some (.int 0), (S sl p I J))) := by
  refine (r_eq (dk D309c16 26 rfl) rfl).trans (ite2 ?_ ?_)
  · exact rfl
  · refine (r_ic (dk D309c16 27 rfl) ci0).trans ?_
    exact r_rez (dk D309c16 28 rfl) rt309 (by decide)
theorem E309_823 {d sl : Nat} {p : Nat → Nat} {I : Nat → Nat → Int32} {J : Nat → Nat → Int64} (i : Int32) : ev (d + 1) 309 823 [.ref 0, .ref 1, .ref 46, .int i] [] (S sl p I J) = evK (d + 1) 309 827 [.ref 0, .ref 1, .ref 46, .int i] [] (den d 136 [.ref 1] (S sl p I J)) := by
  refine (r_aln (dk D309c16 29 rfl) rfl).trans ?_
  exact r_cv (dk D309c17 0 rfl) ow309 c13_91 mf136 (Nat.le_of_ble_eq_true rfl) rfl rfl (Nat.le_of_ble_eq_true rfl) (Nat.le_of_ble_eq_true rfl) ob_1
theorem E309_827 {d sl : Nat} {p : Nat → Nat} {I : Nat → Nat → Int32} {J : Nat → Nat → Int64} (i : Int32) (x : Int32) : ev (d + 1) 309 827 [.ref 0, .ref 1, .ref 46, .int i] [.int x] (S sl p I J) = evK (d + 1) 309 831 [.ref 0, .ref 1, .ref 46, .int i] [.int x] (den d 252 [.ref 46] (S sl p I J)) := by
  refine (r_aln (dk D309c17 1 rfl) rfl).trans ?_
  exact r_cv (dk D309c17 2 rfl) ow309 c13_94 mf252 (Nat.le_of_ble_eq_true rfl) rfl rfl (Nat.le_of_ble_eq_true rfl) (Nat.le_of_ble_eq_true rfl) ob_46
theorem E309_831 {d sl : Nat} {p : Nat → Nat} {I : Nat → Nat → Int32} {J : Nat → Nat → Int64} (i : Int32) (z x : Int32) : ev d 309 831 [.ref 0, .ref 1, .ref 46, .int i] [.int z, .int x] (S sl p I J) = (if x = z then ev d 309 1763 [.ref 0, .ref 1, .ref 46, .int i] [] (S sl p I J) else some (some (.int 0), (S sl p I J))) := by
  refine (r_eq (dk D309c17 3 rfl) rfl).trans (ite2 ?_ ?_)
  · exact rfl
  · refine (r_ic (dk D309c17 4 rfl) ci0).trans ?_
    exact r_rez (dk D309c17 5 rfl) rt309 (by decide)
theorem E309_836 {d sl : Nat} {p : Nat → Nat} {I : Nat → Nat → Int32} {J : Nat → Nat → Int64} (i : Int32) : ev (d + 1) 309 836 [.ref 0, .ref 1, .ref 46, .int i] [] (S sl p I J) = ck (ixb sl (i + 1)) (evK (d + 1) 309 845 [.ref 0, .ref 1, .ref 46, .int i] [] (den d 137 [.ref 1, .int (I 0 (Int32.toNatClampNeg (i + 1)))] (S sl p I J))) := by
  refine (r_aln (dk D309c17 6 rfl) rfl).trans ?_
  refine (r_aln (dk D309c17 7 rfl) rfl).trans ?_
  refine (r_iln (dk D309c17 8 rfl) rfl).trans ?_
  refine (r_ic (dk D309c17 9 rfl) ci1).trans ?_
  refine (r_iadd (dk D309c17 10 rfl)).trans ?_
  refine (r_scr (dk D309c17 11 rfl)).trans (ck3 fun g1 => ?_)
  exact r_cv (dk D309c17 12 rfl) ow309 c13_95 mf137 (Nat.le_of_ble_eq_true rfl) rfl rfl (Nat.le_of_ble_eq_true rfl) (Nat.le_of_ble_eq_true rfl) ob_1
theorem E309_845 {d sl : Nat} {p : Nat → Nat} {I : Nat → Nat → Int32} {J : Nat → Nat → Int64} (i : Int32) (x : Int32) : ev (d + 1) 309 845 [.ref 0, .ref 1, .ref 46, .int i] [.int x] (S sl p I J) = ck (ixb sl (i + 1)) (evK (d + 1) 309 854 [.ref 0, .ref 1, .ref 46, .int i] [.int x] (den d 253 [.ref 46, .int (I 0 (Int32.toNatClampNeg (i + 1)))] (S sl p I J))) := by
  refine (r_aln (dk D309c17 13 rfl) rfl).trans ?_
  refine (r_aln (dk D309c17 14 rfl) rfl).trans ?_
  refine (r_iln (dk D309c17 15 rfl) rfl).trans ?_
  refine (r_ic (dk D309c17 16 rfl) ci1).trans ?_
  refine (r_iadd (dk D309c17 17 rfl)).trans ?_
  refine (r_scr (dk D309c17 18 rfl)).trans (ck3 fun g1 => ?_)
  exact r_cv (dk D309c17 19 rfl) ow309 c13_98 mf253 (Nat.le_of_ble_eq_true rfl) rfl rfl (Nat.le_of_ble_eq_true rfl) (Nat.le_of_ble_eq_true rfl) ob_46
theorem E309_854 {d sl : Nat} {p : Nat → Nat} {I : Nat → Nat → Int32} {J : Nat → Nat → Int64} (i : Int32) (z x : Int32) : ev d 309 854 [.ref 0, .ref 1, .ref 46, .int i] [.int z, .int x] (S sl p I J) = (if x = z then ev d 309 1763 [.ref 0, .ref 1, .ref 46, .int i] [] (S sl p I J) else some (some (.int 0), (S sl p I J))) := by
  refine (r_eq (dk D309c17 20 rfl) rfl).trans (ite2 ?_ ?_)
  · exact rfl
  · refine (r_ic (dk D309c17 21 rfl) ci0).trans ?_
    exact r_rez (dk D309c17 22 rfl) rt309 (by decide)
theorem E309_859 {d sl : Nat} {p : Nat → Nat} {I : Nat → Nat → Int32} {J : Nat → Nat → Int64} (i : Int32) : ev (d + 1) 309 859 [.ref 0, .ref 1, .ref 46, .int i] [] (S sl p I J) = ck (ixb sl (i + 1)) (evK (d + 1) 309 868 [.ref 0, .ref 1, .ref 46, .int i] [] (den d 138 [.ref 1, .int (I 0 (Int32.toNatClampNeg (i + 1)))] (S sl p I J))) := by
  refine (r_aln (dk D309c17 23 rfl) rfl).trans ?_
  refine (r_aln (dk D309c17 24 rfl) rfl).trans ?_
  refine (r_iln (dk D309c17 25 rfl) rfl).trans ?_
  refine (r_ic (dk D309c17 26 rfl) ci1).trans ?_
  refine (r_iadd (dk D309c17 27 rfl)).trans ?_
  refine (r_scr (dk D309c17 28 rfl)).trans (ck3 fun g1 => ?_)
  exact r_cv (dk D309c17 29 rfl) ow309 c13_99 mf138 (Nat.le_of_ble_eq_true rfl) rfl rfl (Nat.le_of_ble_eq_true rfl) (Nat.le_of_ble_eq_true rfl) ob_1
theorem E309_868 {d sl : Nat} {p : Nat → Nat} {I : Nat → Nat → Int32} {J : Nat → Nat → Int64} (i : Int32) (x : Int32) : ev (d + 1) 309 868 [.ref 0, .ref 1, .ref 46, .int i] [.int x] (S sl p I J) = ck (ixb sl (i + 1)) (evK (d + 1) 309 877 [.ref 0, .ref 1, .ref 46, .int i] [.int x] (den d 255 [.ref 46, .int (I 0 (Int32.toNatClampNeg (i + 1)))] (S sl p I J))) := by
  refine (r_aln (dk D309c18 0 rfl) rfl).trans ?_
  refine (r_aln (dk D309c18 1 rfl) rfl).trans ?_
  refine (r_iln (dk D309c18 2 rfl) rfl).trans ?_
  refine (r_ic (dk D309c18 3 rfl) ci1).trans ?_
  refine (r_iadd (dk D309c18 4 rfl)).trans ?_
  refine (r_scr (dk D309c18 5 rfl)).trans (ck3 fun g1 => ?_)
  exact r_cv (dk D309c18 6 rfl) ow309 c13_102 mf255 (Nat.le_of_ble_eq_true rfl) rfl rfl (Nat.le_of_ble_eq_true rfl) (Nat.le_of_ble_eq_true rfl) ob_46
theorem E309_877 {d sl : Nat} {p : Nat → Nat} {I : Nat → Nat → Int32} {J : Nat → Nat → Int64} (i : Int32) (z x : Int32) : ev d 309 877 [.ref 0, .ref 1, .ref 46, .int i] [.int z, .int x] (S sl p I J) = (if x = z then ev d 309 1763 [.ref 0, .ref 1, .ref 46, .int i] [] (S sl p I J) else some (some (.int 0), (S sl p I J))) := by
  refine (r_eq (dk D309c18 7 rfl) rfl).trans (ite2 ?_ ?_)
  · exact rfl
  · refine (r_ic (dk D309c18 8 rfl) ci0).trans ?_
    exact r_rez (dk D309c18 9 rfl) rt309 (by decide)
theorem E309_882 {d sl : Nat} {p : Nat → Nat} {I : Nat → Nat → Int32} {J : Nat → Nat → Int64} (i : Int32) : ev (d + 1) 309 882 [.ref 0, .ref 1, .ref 46, .int i] [] (S sl p I J) = ck (ixb sl (i + 1)) (ck (ixb sl (i + 2)) (evK (d + 1) 309 896 [.ref 0, .ref 1, .ref 46, .int i] [] (den d 139 [.ref 1, .int (I 0 (Int32.toNatClampNeg (i + 1))), .int (I 0 (Int32.toNatClampNeg (i + 2)))] (S sl p I J)))) := by
  refine (r_aln (dk D309c18 10 rfl) rfl).trans ?_
  refine (r_aln (dk D309c18 11 rfl) rfl).trans ?_
  refine (r_iln (dk D309c18 12 rfl) rfl).trans ?_
  refine (r_ic (dk D309c18 13 rfl) ci1).trans ?_
  refine (r_iadd (dk D309c18 14 rfl)).trans ?_
  refine (r_scr (dk D309c18 15 rfl)).trans (ck3 fun g1 => ?_)
  refine (r_aln (dk D309c18 16 rfl) rfl).trans ?_
  refine (r_iln (dk D309c18 17 rfl) rfl).trans ?_
  refine (r_ic (dk D309c18 18 rfl) ci2).trans ?_
  refine (r_iadd (dk D309c18 19 rfl)).trans ?_
  refine (r_scr (dk D309c18 20 rfl)).trans (ck3 fun g2 => ?_)
  exact r_cv (dk D309c18 21 rfl) ow309 c13_103 mf139 (Nat.le_of_ble_eq_true rfl) rfl rfl (Nat.le_of_ble_eq_true rfl) (Nat.le_of_ble_eq_true rfl) ob_1
theorem E309_896 {d sl : Nat} {p : Nat → Nat} {I : Nat → Nat → Int32} {J : Nat → Nat → Int64} (i : Int32) (x : Int32) : ev (d + 1) 309 896 [.ref 0, .ref 1, .ref 46, .int i] [.int x] (S sl p I J) = ck (ixb sl (i + 1)) (ck (ixb sl (i + 2)) (evK (d + 1) 309 910 [.ref 0, .ref 1, .ref 46, .int i] [.int x] (den d 257 [.ref 46, .int (I 0 (Int32.toNatClampNeg (i + 1))), .int (I 0 (Int32.toNatClampNeg (i + 2)))] (S sl p I J)))) := by
  refine (r_aln (dk D309c18 22 rfl) rfl).trans ?_
  refine (r_aln (dk D309c18 23 rfl) rfl).trans ?_
  refine (r_iln (dk D309c18 24 rfl) rfl).trans ?_
  refine (r_ic (dk D309c18 25 rfl) ci1).trans ?_
  refine (r_iadd (dk D309c18 26 rfl)).trans ?_
  refine (r_scr (dk D309c18 27 rfl)).trans (ck3 fun g1 => ?_)
  refine (r_aln (dk D309c18 28 rfl) rfl).trans ?_
  refine (r_iln (dk D309c18 29 rfl) rfl).trans ?_
  refine (r_ic (dk D309c19 0 rfl) ci2).trans ?_
  refine (r_iadd (dk D309c19 1 rfl)).trans ?_
  refine (r_scr (dk D309c19 2 rfl)).trans (ck3 fun g2 => ?_)
  exact r_cv (dk D309c19 3 rfl) ow309 c13_106 mf257 (Nat.le_of_ble_eq_true rfl) rfl rfl (Nat.le_of_ble_eq_true rfl) (Nat.le_of_ble_eq_true rfl) ob_46
theorem E309_910 {d sl : Nat} {p : Nat → Nat} {I : Nat → Nat → Int32} {J : Nat → Nat → Int64} (i : Int32) (z x : Int32) : ev d 309 910 [.ref 0, .ref 1, .ref 46, .int i] [.int z, .int x] (S sl p I J) = (if x = z then ev d 309 1763 [.ref 0, .ref 1, .ref 46, .int i] [] (S sl p I J) else some (some (.int 0), (S sl p I J))) := by
  refine (r_eq (dk D309c19 4 rfl) rfl).trans (ite2 ?_ ?_)
  · exact rfl
  · refine (r_ic (dk D309c19 5 rfl) ci0).trans ?_
    exact r_rez (dk D309c19 6 rfl) rt309 (by decide)
theorem E309_915 {d sl : Nat} {p : Nat → Nat} {I : Nat → Nat → Int32} {J : Nat → Nat → Int64} (i : Int32) : ev (d + 1) 309 915 [.ref 0, .ref 1, .ref 46, .int i] [] (S sl p I J) = ck (ixb sl (i + 1)) (evK (d + 1) 309 924 [.ref 0, .ref 1, .ref 46, .int i] [] (den d 140 [.ref 1, .int (I 0 (Int32.toNatClampNeg (i + 1)))] (S sl p I J))) := by
  refine (r_aln (dk D309c19 7 rfl) rfl).trans ?_
  refine (r_aln (dk D309c19 8 rfl) rfl).trans ?_
  refine (r_iln (dk D309c19 9 rfl) rfl).trans ?_
  refine (r_ic (dk D309c19 10 rfl) ci1).trans ?_
  refine (r_iadd (dk D309c19 11 rfl)).trans ?_
  refine (r_scr (dk D309c19 12 rfl)).trans (ck3 fun g1 => ?_)
  exact r_cv (dk D309c19 13 rfl) ow309 c13_107 mf140 (Nat.le_of_ble_eq_true rfl) rfl rfl (Nat.le_of_ble_eq_true rfl) (Nat.le_of_ble_eq_true rfl) ob_1
theorem E309_924 {d sl : Nat} {p : Nat → Nat} {I : Nat → Nat → Int32} {J : Nat → Nat → Int64} (i : Int32) (x : Int32) : ev (d + 1) 309 924 [.ref 0, .ref 1, .ref 46, .int i] [.int x] (S sl p I J) = ck (ixb sl (i + 1)) (evK (d + 1) 309 933 [.ref 0, .ref 1, .ref 46, .int i] [.int x] (den d 259 [.ref 46, .int (I 0 (Int32.toNatClampNeg (i + 1)))] (S sl p I J))) := by
  refine (r_aln (dk D309c19 14 rfl) rfl).trans ?_
  refine (r_aln (dk D309c19 15 rfl) rfl).trans ?_
  refine (r_iln (dk D309c19 16 rfl) rfl).trans ?_
  refine (r_ic (dk D309c19 17 rfl) ci1).trans ?_
  refine (r_iadd (dk D309c19 18 rfl)).trans ?_
  refine (r_scr (dk D309c19 19 rfl)).trans (ck3 fun g1 => ?_)
  exact r_cv (dk D309c19 20 rfl) ow309 c13_110 mf259 (Nat.le_of_ble_eq_true rfl) rfl rfl (Nat.le_of_ble_eq_true rfl) (Nat.le_of_ble_eq_true rfl) ob_46
theorem E309_933 {d sl : Nat} {p : Nat → Nat} {I : Nat → Nat → Int32} {J : Nat → Nat → Int64} (i : Int32) (z x : Int32) : ev d 309 933 [.ref 0, .ref 1, .ref 46, .int i] [.int z, .int x] (S sl p I J) = (if x = z then ev d 309 1763 [.ref 0, .ref 1, .ref 46, .int i] [] (S sl p I J) else some (some (.int 0), (S sl p I J))) := by
  refine (r_eq (dk D309c19 21 rfl) rfl).trans (ite2 ?_ ?_)
  · exact rfl
  · refine (r_ic (dk D309c19 22 rfl) ci0).trans ?_
    exact r_rez (dk D309c19 23 rfl) rt309 (by decide)
theorem E309_938 {d sl : Nat} {p : Nat → Nat} {I : Nat → Nat → Int32} {J : Nat → Nat → Int64} (i : Int32) : ev (d + 1) 309 938 [.ref 0, .ref 1, .ref 46, .int i] [] (S sl p I J) = ck (ixb sl (i + 1)) (evK (d + 1) 309 947 [.ref 0, .ref 1, .ref 46, .int i] [] (den d 141 [.ref 1, .int (I 0 (Int32.toNatClampNeg (i + 1)))] (S sl p I J))) := by
  refine (r_aln (dk D309c19 24 rfl) rfl).trans ?_
  refine (r_aln (dk D309c19 25 rfl) rfl).trans ?_
  refine (r_iln (dk D309c19 26 rfl) rfl).trans ?_
  refine (r_ic (dk D309c19 27 rfl) ci1).trans ?_
  refine (r_iadd (dk D309c19 28 rfl)).trans ?_
  refine (r_scr (dk D309c19 29 rfl)).trans (ck3 fun g1 => ?_)
  exact r_cv (dk D309c20 0 rfl) ow309 c13_111 mf141 (Nat.le_of_ble_eq_true rfl) rfl rfl (Nat.le_of_ble_eq_true rfl) (Nat.le_of_ble_eq_true rfl) ob_1
theorem E309_947 {d sl : Nat} {p : Nat → Nat} {I : Nat → Nat → Int32} {J : Nat → Nat → Int64} (i : Int32) (x : Int32) : ev (d + 1) 309 947 [.ref 0, .ref 1, .ref 46, .int i] [.int x] (S sl p I J) = ck (ixb sl (i + 1)) (evK (d + 1) 309 956 [.ref 0, .ref 1, .ref 46, .int i] [.int x] (den d 260 [.ref 46, .int (I 0 (Int32.toNatClampNeg (i + 1)))] (S sl p I J))) := by
  refine (r_aln (dk D309c20 1 rfl) rfl).trans ?_
  refine (r_aln (dk D309c20 2 rfl) rfl).trans ?_
  refine (r_iln (dk D309c20 3 rfl) rfl).trans ?_
  refine (r_ic (dk D309c20 4 rfl) ci1).trans ?_
  refine (r_iadd (dk D309c20 5 rfl)).trans ?_
  refine (r_scr (dk D309c20 6 rfl)).trans (ck3 fun g1 => ?_)
  exact r_cv (dk D309c20 7 rfl) ow309 c13_114 mf260 (Nat.le_of_ble_eq_true rfl) rfl rfl (Nat.le_of_ble_eq_true rfl) (Nat.le_of_ble_eq_true rfl) ob_46
theorem E309_956 {d sl : Nat} {p : Nat → Nat} {I : Nat → Nat → Int32} {J : Nat → Nat → Int64} (i : Int32) (z x : Int32) : ev d 309 956 [.ref 0, .ref 1, .ref 46, .int i] [.int z, .int x] (S sl p I J) = (if x = z then ev d 309 1763 [.ref 0, .ref 1, .ref 46, .int i] [] (S sl p I J) else some (some (.int 0), (S sl p I J))) := by
  refine (r_eq (dk D309c20 8 rfl) rfl).trans (ite2 ?_ ?_)
  · exact rfl
  · refine (r_ic (dk D309c20 9 rfl) ci0).trans ?_
    exact r_rez (dk D309c20 10 rfl) rt309 (by decide)
theorem E309_961 {d sl : Nat} {p : Nat → Nat} {I : Nat → Nat → Int32} {J : Nat → Nat → Int64} (i : Int32) : ev (d + 1) 309 961 [.ref 0, .ref 1, .ref 46, .int i] [] (S sl p I J) = ck (ixb sl (i + 1)) (ck (ixb sl (i + 2)) (evK (d + 1) 309 975 [.ref 0, .ref 1, .ref 46, .int i] [] (den d 142 [.ref 1, .int (I 0 (Int32.toNatClampNeg (i + 1))), .int (I 0 (Int32.toNatClampNeg (i + 2)))] (S sl p I J)))) := by
  refine (r_aln (dk D309c20 11 rfl) rfl).trans ?_
  refine (r_aln (dk D309c20 12 rfl) rfl).trans ?_
  refine (r_iln (dk D309c20 13 rfl) rfl).trans ?_
  refine (r_ic (dk D309c20 14 rfl) ci1).trans ?_
  refine (r_iadd (dk D309c20 15 rfl)).trans ?_
  refine (r_scr (dk D309c20 16 rfl)).trans (ck3 fun g1 => ?_)
  refine (r_aln (dk D309c20 17 rfl) rfl).trans ?_
  refine (r_iln (dk D309c20 18 rfl) rfl).trans ?_
  refine (r_ic (dk D309c20 19 rfl) ci2).trans ?_
  refine (r_iadd (dk D309c20 20 rfl)).trans ?_
  refine (r_scr (dk D309c20 21 rfl)).trans (ck3 fun g2 => ?_)
  exact r_cv (dk D309c20 22 rfl) ow309 c13_115 mf142 (Nat.le_of_ble_eq_true rfl) rfl rfl (Nat.le_of_ble_eq_true rfl) (Nat.le_of_ble_eq_true rfl) ob_1
theorem E309_975 {d sl : Nat} {p : Nat → Nat} {I : Nat → Nat → Int32} {J : Nat → Nat → Int64} (i : Int32) (x : Int32) : ev (d + 1) 309 975 [.ref 0, .ref 1, .ref 46, .int i] [.int x] (S sl p I J) = ck (ixb sl (i + 1)) (ck (ixb sl (i + 2)) (evK (d + 1) 309 989 [.ref 0, .ref 1, .ref 46, .int i] [.int x] (den d 264 [.ref 46, .int (I 0 (Int32.toNatClampNeg (i + 1))), .int (I 0 (Int32.toNatClampNeg (i + 2)))] (S sl p I J)))) := by
  refine (r_aln (dk D309c20 23 rfl) rfl).trans ?_
  refine (r_aln (dk D309c20 24 rfl) rfl).trans ?_
  refine (r_iln (dk D309c20 25 rfl) rfl).trans ?_
  refine (r_ic (dk D309c20 26 rfl) ci1).trans ?_
  refine (r_iadd (dk D309c20 27 rfl)).trans ?_
  refine (r_scr (dk D309c20 28 rfl)).trans (ck3 fun g1 => ?_)
  refine (r_aln (dk D309c20 29 rfl) rfl).trans ?_
  refine (r_iln (dk D309c21 0 rfl) rfl).trans ?_
  refine (r_ic (dk D309c21 1 rfl) ci2).trans ?_
  refine (r_iadd (dk D309c21 2 rfl)).trans ?_
  refine (r_scr (dk D309c21 3 rfl)).trans (ck3 fun g2 => ?_)
  exact r_cv (dk D309c21 4 rfl) ow309 c13_118 mf264 (Nat.le_of_ble_eq_true rfl) rfl rfl (Nat.le_of_ble_eq_true rfl) (Nat.le_of_ble_eq_true rfl) ob_46
theorem E309_989 {d sl : Nat} {p : Nat → Nat} {I : Nat → Nat → Int32} {J : Nat → Nat → Int64} (i : Int32) (z x : Int32) : ev d 309 989 [.ref 0, .ref 1, .ref 46, .int i] [.int z, .int x] (S sl p I J) = (if x = z then ev d 309 1763 [.ref 0, .ref 1, .ref 46, .int i] [] (S sl p I J) else some (some (.int 0), (S sl p I J))) := by
  refine (r_eq (dk D309c21 5 rfl) rfl).trans (ite2 ?_ ?_)
  · exact rfl
  · refine (r_ic (dk D309c21 6 rfl) ci0).trans ?_
    exact r_rez (dk D309c21 7 rfl) rt309 (by decide)
theorem E309_994 {d sl : Nat} {p : Nat → Nat} {I : Nat → Nat → Int32} {J : Nat → Nat → Int64} (i : Int32) : ev (d + 1) 309 994 [.ref 0, .ref 1, .ref 46, .int i] [] (S sl p I J) = ck (ixb sl (i + 1)) (ck (ixb sl (i + 2)) (evK (d + 1) 309 1008 [.ref 0, .ref 1, .ref 46, .int i] [] (den d 143 [.ref 1, .int (I 0 (Int32.toNatClampNeg (i + 1))), .int (I 0 (Int32.toNatClampNeg (i + 2)))] (S sl p I J)))) := by
  refine (r_aln (dk D309c21 8 rfl) rfl).trans ?_
  refine (r_aln (dk D309c21 9 rfl) rfl).trans ?_
  refine (r_iln (dk D309c21 10 rfl) rfl).trans ?_
  refine (r_ic (dk D309c21 11 rfl) ci1).trans ?_
  refine (r_iadd (dk D309c21 12 rfl)).trans ?_
  refine (r_scr (dk D309c21 13 rfl)).trans (ck3 fun g1 => ?_)
  refine (r_aln (dk D309c21 14 rfl) rfl).trans ?_
  refine (r_iln (dk D309c21 15 rfl) rfl).trans ?_
  refine (r_ic (dk D309c21 16 rfl) ci2).trans ?_
  refine (r_iadd (dk D309c21 17 rfl)).trans ?_
  refine (r_scr (dk D309c21 18 rfl)).trans (ck3 fun g2 => ?_)
  exact r_cv (dk D309c21 19 rfl) ow309 c13_119 mf143 (Nat.le_of_ble_eq_true rfl) rfl rfl (Nat.le_of_ble_eq_true rfl) (Nat.le_of_ble_eq_true rfl) ob_1
theorem E309_1008 {d sl : Nat} {p : Nat → Nat} {I : Nat → Nat → Int32} {J : Nat → Nat → Int64} (i : Int32) (x : Int32) : ev (d + 1) 309 1008 [.ref 0, .ref 1, .ref 46, .int i] [.int x] (S sl p I J) = ck (ixb sl (i + 1)) (ck (ixb sl (i + 2)) (evK (d + 1) 309 1022 [.ref 0, .ref 1, .ref 46, .int i] [.int x] (den d 265 [.ref 46, .int (I 0 (Int32.toNatClampNeg (i + 1))), .int (I 0 (Int32.toNatClampNeg (i + 2)))] (S sl p I J)))) := by
  refine (r_aln (dk D309c21 20 rfl) rfl).trans ?_
  refine (r_aln (dk D309c21 21 rfl) rfl).trans ?_
  refine (r_iln (dk D309c21 22 rfl) rfl).trans ?_
  refine (r_ic (dk D309c21 23 rfl) ci1).trans ?_
  refine (r_iadd (dk D309c21 24 rfl)).trans ?_
  refine (r_scr (dk D309c21 25 rfl)).trans (ck3 fun g1 => ?_)
  refine (r_aln (dk D309c21 26 rfl) rfl).trans ?_
  refine (r_iln (dk D309c21 27 rfl) rfl).trans ?_
  refine (r_ic (dk D309c21 28 rfl) ci2).trans ?_
  refine (r_iadd (dk D309c21 29 rfl)).trans ?_
  refine (r_scr (dk D309c22 0 rfl)).trans (ck3 fun g2 => ?_)
  exact r_cv (dk D309c22 1 rfl) ow309 c13_122 mf265 (Nat.le_of_ble_eq_true rfl) rfl rfl (Nat.le_of_ble_eq_true rfl) (Nat.le_of_ble_eq_true rfl) ob_46
theorem E309_1022 {d sl : Nat} {p : Nat → Nat} {I : Nat → Nat → Int32} {J : Nat → Nat → Int64} (i : Int32) (z x : Int32) : ev d 309 1022 [.ref 0, .ref 1, .ref 46, .int i] [.int z, .int x] (S sl p I J) = (if x = z then ev d 309 1763 [.ref 0, .ref 1, .ref 46, .int i] [] (S sl p I J) else some (some (.int 0), (S sl p I J))) := by
  refine (r_eq (dk D309c22 2 rfl) rfl).trans (ite2 ?_ ?_)
  · exact rfl
  · refine (r_ic (dk D309c22 3 rfl) ci0).trans ?_
    exact r_rez (dk D309c22 4 rfl) rt309 (by decide)
theorem E309_1027 {d sl : Nat} {p : Nat → Nat} {I : Nat → Nat → Int32} {J : Nat → Nat → Int64} (i : Int32) : ev (d + 1) 309 1027 [.ref 0, .ref 1, .ref 46, .int i] [] (S sl p I J) = ck (ixb sl (i + 1)) (ck (ixb sl (i + 2)) (evK (d + 1) 309 1041 [.ref 0, .ref 1, .ref 46, .int i] [] (den d 144 [.ref 1, .int (I 0 (Int32.toNatClampNeg (i + 1))), .int (I 0 (Int32.toNatClampNeg (i + 2)))] (S sl p I J)))) := by
  refine (r_aln (dk D309c22 5 rfl) rfl).trans ?_
  refine (r_aln (dk D309c22 6 rfl) rfl).trans ?_
  refine (r_iln (dk D309c22 7 rfl) rfl).trans ?_
  refine (r_ic (dk D309c22 8 rfl) ci1).trans ?_
  refine (r_iadd (dk D309c22 9 rfl)).trans ?_
  refine (r_scr (dk D309c22 10 rfl)).trans (ck3 fun g1 => ?_)
  refine (r_aln (dk D309c22 11 rfl) rfl).trans ?_
  refine (r_iln (dk D309c22 12 rfl) rfl).trans ?_
  refine (r_ic (dk D309c22 13 rfl) ci2).trans ?_
  refine (r_iadd (dk D309c22 14 rfl)).trans ?_
  refine (r_scr (dk D309c22 15 rfl)).trans (ck3 fun g2 => ?_)
  exact r_cv (dk D309c22 16 rfl) ow309 c13_123 mf144 (Nat.le_of_ble_eq_true rfl) rfl rfl (Nat.le_of_ble_eq_true rfl) (Nat.le_of_ble_eq_true rfl) ob_1
theorem E309_1041 {d sl : Nat} {p : Nat → Nat} {I : Nat → Nat → Int32} {J : Nat → Nat → Int64} (i : Int32) (x : Int32) : ev (d + 1) 309 1041 [.ref 0, .ref 1, .ref 46, .int i] [.int x] (S sl p I J) = ck (ixb sl (i + 1)) (ck (ixb sl (i + 2)) (evK (d + 1) 309 1055 [.ref 0, .ref 1, .ref 46, .int i] [.int x] (den d 266 [.ref 46, .int (I 0 (Int32.toNatClampNeg (i + 1))), .int (I 0 (Int32.toNatClampNeg (i + 2)))] (S sl p I J)))) := by
  refine (r_aln (dk D309c22 17 rfl) rfl).trans ?_
  refine (r_aln (dk D309c22 18 rfl) rfl).trans ?_
  refine (r_iln (dk D309c22 19 rfl) rfl).trans ?_
  refine (r_ic (dk D309c22 20 rfl) ci1).trans ?_
  refine (r_iadd (dk D309c22 21 rfl)).trans ?_
  refine (r_scr (dk D309c22 22 rfl)).trans (ck3 fun g1 => ?_)
  refine (r_aln (dk D309c22 23 rfl) rfl).trans ?_
  refine (r_iln (dk D309c22 24 rfl) rfl).trans ?_
  refine (r_ic (dk D309c22 25 rfl) ci2).trans ?_
  refine (r_iadd (dk D309c22 26 rfl)).trans ?_
  refine (r_scr (dk D309c22 27 rfl)).trans (ck3 fun g2 => ?_)
  exact r_cv (dk D309c22 28 rfl) ow309 c13_126 mf266 (Nat.le_of_ble_eq_true rfl) rfl rfl (Nat.le_of_ble_eq_true rfl) (Nat.le_of_ble_eq_true rfl) ob_46
theorem E309_1055 {d sl : Nat} {p : Nat → Nat} {I : Nat → Nat → Int32} {J : Nat → Nat → Int64} (i : Int32) (z x : Int32) : ev d 309 1055 [.ref 0, .ref 1, .ref 46, .int i] [.int z, .int x] (S sl p I J) = (if x = z then ev d 309 1763 [.ref 0, .ref 1, .ref 46, .int i] [] (S sl p I J) else some (some (.int 0), (S sl p I J))) := by
  refine (r_eq (dk D309c22 29 rfl) rfl).trans (ite2 ?_ ?_)
  · exact rfl
  · refine (r_ic (dk D309c23 0 rfl) ci0).trans ?_
    exact r_rez (dk D309c23 1 rfl) rt309 (by decide)
theorem E309_1060 {d sl : Nat} {p : Nat → Nat} {I : Nat → Nat → Int32} {J : Nat → Nat → Int64} (i : Int32) : ev (d + 1) 309 1060 [.ref 0, .ref 1, .ref 46, .int i] [] (S sl p I J) = ck (ixb sl (i + 1)) (ck (ixb sl (i + 2)) (ck (ixb sl (i + 3)) (evK (d + 1) 309 1079 [.ref 0, .ref 1, .ref 46, .int i] [] (den d 145 [.ref 1, .int (I 0 (Int32.toNatClampNeg (i + 1))), .int (I 0 (Int32.toNatClampNeg (i + 2))), .int (I 0 (Int32.toNatClampNeg (i + 3)))] (S sl p I J))))) := by
  refine (r_aln (dk D309c23 2 rfl) rfl).trans ?_
  refine (r_aln (dk D309c23 3 rfl) rfl).trans ?_
  refine (r_iln (dk D309c23 4 rfl) rfl).trans ?_
  refine (r_ic (dk D309c23 5 rfl) ci1).trans ?_
  refine (r_iadd (dk D309c23 6 rfl)).trans ?_
  refine (r_scr (dk D309c23 7 rfl)).trans (ck3 fun g1 => ?_)
  refine (r_aln (dk D309c23 8 rfl) rfl).trans ?_
  refine (r_iln (dk D309c23 9 rfl) rfl).trans ?_
  refine (r_ic (dk D309c23 10 rfl) ci2).trans ?_
  refine (r_iadd (dk D309c23 11 rfl)).trans ?_
  refine (r_scr (dk D309c23 12 rfl)).trans (ck3 fun g2 => ?_)
  refine (r_aln (dk D309c23 13 rfl) rfl).trans ?_
  refine (r_iln (dk D309c23 14 rfl) rfl).trans ?_
  refine (r_ic (dk D309c23 15 rfl) ci3).trans ?_
  refine (r_iadd (dk D309c23 16 rfl)).trans ?_
  refine (r_scr (dk D309c23 17 rfl)).trans (ck3 fun g3 => ?_)
  exact r_cv (dk D309c23 18 rfl) ow309 c13_127 mf145 (Nat.le_of_ble_eq_true rfl) rfl rfl (Nat.le_of_ble_eq_true rfl) (Nat.le_of_ble_eq_true rfl) ob_1
theorem E309_1079 {d sl : Nat} {p : Nat → Nat} {I : Nat → Nat → Int32} {J : Nat → Nat → Int64} (i : Int32) (x : Int32) : ev (d + 1) 309 1079 [.ref 0, .ref 1, .ref 46, .int i] [.int x] (S sl p I J) = ck (ixb sl (i + 1)) (ck (ixb sl (i + 2)) (ck (ixb sl (i + 3)) (evK (d + 1) 309 1098 [.ref 0, .ref 1, .ref 46, .int i] [.int x] (den d 269 [.ref 46, .int (I 0 (Int32.toNatClampNeg (i + 1))), .int (I 0 (Int32.toNatClampNeg (i + 2))), .int (I 0 (Int32.toNatClampNeg (i + 3)))] (S sl p I J))))) := by
  refine (r_aln (dk D309c23 19 rfl) rfl).trans ?_
  refine (r_aln (dk D309c23 20 rfl) rfl).trans ?_
  refine (r_iln (dk D309c23 21 rfl) rfl).trans ?_
  refine (r_ic (dk D309c23 22 rfl) ci1).trans ?_
  refine (r_iadd (dk D309c23 23 rfl)).trans ?_
  refine (r_scr (dk D309c23 24 rfl)).trans (ck3 fun g1 => ?_)
  refine (r_aln (dk D309c23 25 rfl) rfl).trans ?_
  refine (r_iln (dk D309c23 26 rfl) rfl).trans ?_
  refine (r_ic (dk D309c23 27 rfl) ci2).trans ?_
  refine (r_iadd (dk D309c23 28 rfl)).trans ?_
  refine (r_scr (dk D309c23 29 rfl)).trans (ck3 fun g2 => ?_)
  refine (r_aln (dk D309c24 0 rfl) rfl).trans ?_
  refine (r_iln (dk D309c24 1 rfl) rfl).trans ?_
  refine (r_ic (dk D309c24 2 rfl) ci3).trans ?_
  refine (r_iadd (dk D309c24 3 rfl)).trans ?_
  refine (r_scr (dk D309c24 4 rfl)).trans (ck3 fun g3 => ?_)
  exact r_cv (dk D309c24 5 rfl) ow309 c13_130 mf269 (Nat.le_of_ble_eq_true rfl) rfl rfl (Nat.le_of_ble_eq_true rfl) (Nat.le_of_ble_eq_true rfl) ob_46
theorem E309_1098 {d sl : Nat} {p : Nat → Nat} {I : Nat → Nat → Int32} {J : Nat → Nat → Int64} (i : Int32) (z x : Int32) : ev d 309 1098 [.ref 0, .ref 1, .ref 46, .int i] [.int z, .int x] (S sl p I J) = (if x = z then ev d 309 1763 [.ref 0, .ref 1, .ref 46, .int i] [] (S sl p I J) else some (some (.int 0), (S sl p I J))) := by
  refine (r_eq (dk D309c24 6 rfl) rfl).trans (ite2 ?_ ?_)
  · exact rfl
  · refine (r_ic (dk D309c24 7 rfl) ci0).trans ?_
    exact r_rez (dk D309c24 8 rfl) rt309 (by decide)
theorem E309_1103 {d sl : Nat} {p : Nat → Nat} {I : Nat → Nat → Int32} {J : Nat → Nat → Int64} (i : Int32) : ev (d + 1) 309 1103 [.ref 0, .ref 1, .ref 46, .int i] [] (S sl p I J) = ck (ixb sl (i + 1)) (ck (ixb sl (i + 2)) (ck (ixb sl (i + 3)) (evK (d + 1) 309 1122 [.ref 0, .ref 1, .ref 46, .int i] [] (den d 146 [.ref 1, .int (I 0 (Int32.toNatClampNeg (i + 1))), .int (I 0 (Int32.toNatClampNeg (i + 2))), .int (I 0 (Int32.toNatClampNeg (i + 3)))] (S sl p I J))))) := by
  refine (r_aln (dk D309c24 9 rfl) rfl).trans ?_
  refine (r_aln (dk D309c24 10 rfl) rfl).trans ?_
  refine (r_iln (dk D309c24 11 rfl) rfl).trans ?_
  refine (r_ic (dk D309c24 12 rfl) ci1).trans ?_
  refine (r_iadd (dk D309c24 13 rfl)).trans ?_
  refine (r_scr (dk D309c24 14 rfl)).trans (ck3 fun g1 => ?_)
  refine (r_aln (dk D309c24 15 rfl) rfl).trans ?_
  refine (r_iln (dk D309c24 16 rfl) rfl).trans ?_
  refine (r_ic (dk D309c24 17 rfl) ci2).trans ?_
  refine (r_iadd (dk D309c24 18 rfl)).trans ?_
  refine (r_scr (dk D309c24 19 rfl)).trans (ck3 fun g2 => ?_)
  refine (r_aln (dk D309c24 20 rfl) rfl).trans ?_
  refine (r_iln (dk D309c24 21 rfl) rfl).trans ?_
  refine (r_ic (dk D309c24 22 rfl) ci3).trans ?_
  refine (r_iadd (dk D309c24 23 rfl)).trans ?_
  refine (r_scr (dk D309c24 24 rfl)).trans (ck3 fun g3 => ?_)
  exact r_cv (dk D309c24 25 rfl) ow309 c13_131 mf146 (Nat.le_of_ble_eq_true rfl) rfl rfl (Nat.le_of_ble_eq_true rfl) (Nat.le_of_ble_eq_true rfl) ob_1
theorem E309_1122 {d sl : Nat} {p : Nat → Nat} {I : Nat → Nat → Int32} {J : Nat → Nat → Int64} (i : Int32) (x : Int32) : ev (d + 1) 309 1122 [.ref 0, .ref 1, .ref 46, .int i] [.int x] (S sl p I J) = ck (ixb sl (i + 1)) (ck (ixb sl (i + 2)) (ck (ixb sl (i + 3)) (evK (d + 1) 309 1141 [.ref 0, .ref 1, .ref 46, .int i] [.int x] (den d 270 [.ref 46, .int (I 0 (Int32.toNatClampNeg (i + 1))), .int (I 0 (Int32.toNatClampNeg (i + 2))), .int (I 0 (Int32.toNatClampNeg (i + 3)))] (S sl p I J))))) := by
  refine (r_aln (dk D309c24 26 rfl) rfl).trans ?_
  refine (r_aln (dk D309c24 27 rfl) rfl).trans ?_
  refine (r_iln (dk D309c24 28 rfl) rfl).trans ?_
  refine (r_ic (dk D309c24 29 rfl) ci1).trans ?_
  refine (r_iadd (dk D309c25 0 rfl)).trans ?_
  refine (r_scr (dk D309c25 1 rfl)).trans (ck3 fun g1 => ?_)
  refine (r_aln (dk D309c25 2 rfl) rfl).trans ?_
  refine (r_iln (dk D309c25 3 rfl) rfl).trans ?_
  refine (r_ic (dk D309c25 4 rfl) ci2).trans ?_
  refine (r_iadd (dk D309c25 5 rfl)).trans ?_
  refine (r_scr (dk D309c25 6 rfl)).trans (ck3 fun g2 => ?_)
  refine (r_aln (dk D309c25 7 rfl) rfl).trans ?_
  refine (r_iln (dk D309c25 8 rfl) rfl).trans ?_
  refine (r_ic (dk D309c25 9 rfl) ci3).trans ?_
  refine (r_iadd (dk D309c25 10 rfl)).trans ?_
  refine (r_scr (dk D309c25 11 rfl)).trans (ck3 fun g3 => ?_)
  exact r_cv (dk D309c25 12 rfl) ow309 c13_134 mf270 (Nat.le_of_ble_eq_true rfl) rfl rfl (Nat.le_of_ble_eq_true rfl) (Nat.le_of_ble_eq_true rfl) ob_46
theorem E309_1141 {d sl : Nat} {p : Nat → Nat} {I : Nat → Nat → Int32} {J : Nat → Nat → Int64} (i : Int32) (z x : Int32) : ev d 309 1141 [.ref 0, .ref 1, .ref 46, .int i] [.int z, .int x] (S sl p I J) = (if x = z then ev d 309 1763 [.ref 0, .ref 1, .ref 46, .int i] [] (S sl p I J) else some (some (.int 0), (S sl p I J))) := by
  refine (r_eq (dk D309c25 13 rfl) rfl).trans (ite2 ?_ ?_)
  · exact rfl
  · refine (r_ic (dk D309c25 14 rfl) ci0).trans ?_
    exact r_rez (dk D309c25 15 rfl) rt309 (by decide)
theorem E309_1146 {d sl : Nat} {p : Nat → Nat} {I : Nat → Nat → Int32} {J : Nat → Nat → Int64} (i : Int32) : ev (d + 1) 309 1146 [.ref 0, .ref 1, .ref 46, .int i] [] (S sl p I J) = ck (ixb sl (i + 1)) (ck (ixb sl (i + 2)) (evK (d + 1) 309 1160 [.ref 0, .ref 1, .ref 46, .int i] [] (den d 147 [.ref 1, .int (I 0 (Int32.toNatClampNeg (i + 1))), .int (I 0 (Int32.toNatClampNeg (i + 2)))] (S sl p I J)))) := by
  refine (r_aln (dk D309c25 16 rfl) rfl).trans ?_
  refine (r_aln (dk D309c25 17 rfl) rfl).trans ?_
  refine (r_iln (dk D309c25 18 rfl) rfl).trans ?_
  refine (r_ic (dk D309c25 19 rfl) ci1).trans ?_
  refine (r_iadd (dk D309c25 20 rfl)).trans ?_
  refine (r_scr (dk D309c25 21 rfl)).trans (ck3 fun g1 => ?_)
  refine (r_aln (dk D309c25 22 rfl) rfl).trans ?_
  refine (r_iln (dk D309c25 23 rfl) rfl).trans ?_
  refine (r_ic (dk D309c25 24 rfl) ci2).trans ?_
  refine (r_iadd (dk D309c25 25 rfl)).trans ?_
  refine (r_scr (dk D309c25 26 rfl)).trans (ck3 fun g2 => ?_)
  exact r_cv (dk D309c25 27 rfl) ow309 c13_135 mf147 (Nat.le_of_ble_eq_true rfl) rfl rfl (Nat.le_of_ble_eq_true rfl) (Nat.le_of_ble_eq_true rfl) ob_1
theorem E309_1160 {d sl : Nat} {p : Nat → Nat} {I : Nat → Nat → Int32} {J : Nat → Nat → Int64} (i : Int32) (x : Int32) : ev (d + 1) 309 1160 [.ref 0, .ref 1, .ref 46, .int i] [.int x] (S sl p I J) = ck (ixb sl (i + 1)) (ck (ixb sl (i + 2)) (evK (d + 1) 309 1174 [.ref 0, .ref 1, .ref 46, .int i] [.int x] (den d 271 [.ref 46, .int (I 0 (Int32.toNatClampNeg (i + 1))), .int (I 0 (Int32.toNatClampNeg (i + 2)))] (S sl p I J)))) := by
  refine (r_aln (dk D309c25 28 rfl) rfl).trans ?_
  refine (r_aln (dk D309c25 29 rfl) rfl).trans ?_
  refine (r_iln (dk D309c26 0 rfl) rfl).trans ?_
  refine (r_ic (dk D309c26 1 rfl) ci1).trans ?_
  refine (r_iadd (dk D309c26 2 rfl)).trans ?_
  refine (r_scr (dk D309c26 3 rfl)).trans (ck3 fun g1 => ?_)
  refine (r_aln (dk D309c26 4 rfl) rfl).trans ?_
  refine (r_iln (dk D309c26 5 rfl) rfl).trans ?_
  refine (r_ic (dk D309c26 6 rfl) ci2).trans ?_
  refine (r_iadd (dk D309c26 7 rfl)).trans ?_
  refine (r_scr (dk D309c26 8 rfl)).trans (ck3 fun g2 => ?_)
  exact r_cv (dk D309c26 9 rfl) ow309 c13_138 mf271 (Nat.le_of_ble_eq_true rfl) rfl rfl (Nat.le_of_ble_eq_true rfl) (Nat.le_of_ble_eq_true rfl) ob_46
theorem E309_1174 {d sl : Nat} {p : Nat → Nat} {I : Nat → Nat → Int32} {J : Nat → Nat → Int64} (i : Int32) (z x : Int32) : ev d 309 1174 [.ref 0, .ref 1, .ref 46, .int i] [.int z, .int x] (S sl p I J) = (if x = z then ev d 309 1763 [.ref 0, .ref 1, .ref 46, .int i] [] (S sl p I J) else some (some (.int 0), (S sl p I J))) := by
  refine (r_eq (dk D309c26 10 rfl) rfl).trans (ite2 ?_ ?_)
  · exact rfl
  · refine (r_ic (dk D309c26 11 rfl) ci0).trans ?_
    exact r_rez (dk D309c26 12 rfl) rt309 (by decide)
theorem E309_1179 {d sl : Nat} {p : Nat → Nat} {I : Nat → Nat → Int32} {J : Nat → Nat → Int64} (i : Int32) : ev (d + 1) 309 1179 [.ref 0, .ref 1, .ref 46, .int i] [] (S sl p I J) = ck (ixb sl (i + 1)) (evK (d + 1) 309 1188 [.ref 0, .ref 1, .ref 46, .int i] [] (den d 148 [.ref 1, .int (I 0 (Int32.toNatClampNeg (i + 1)))] (S sl p I J))) := by
  refine (r_aln (dk D309c26 13 rfl) rfl).trans ?_
  refine (r_aln (dk D309c26 14 rfl) rfl).trans ?_
  refine (r_iln (dk D309c26 15 rfl) rfl).trans ?_
  refine (r_ic (dk D309c26 16 rfl) ci1).trans ?_
  refine (r_iadd (dk D309c26 17 rfl)).trans ?_
  refine (r_scr (dk D309c26 18 rfl)).trans (ck3 fun g1 => ?_)
  exact r_cv (dk D309c26 19 rfl) ow309 c13_139 mf148 (Nat.le_of_ble_eq_true rfl) rfl rfl (Nat.le_of_ble_eq_true rfl) (Nat.le_of_ble_eq_true rfl) ob_1
theorem E309_1188 {d sl : Nat} {p : Nat → Nat} {I : Nat → Nat → Int32} {J : Nat → Nat → Int64} (i : Int32) (x : Int32) : ev (d + 1) 309 1188 [.ref 0, .ref 1, .ref 46, .int i] [.int x] (S sl p I J) = ck (ixb sl (i + 1)) (evK (d + 1) 309 1197 [.ref 0, .ref 1, .ref 46, .int i] [.int x] (den d 273 [.ref 46, .int (I 0 (Int32.toNatClampNeg (i + 1)))] (S sl p I J))) := by
  refine (r_aln (dk D309c26 20 rfl) rfl).trans ?_
  refine (r_aln (dk D309c26 21 rfl) rfl).trans ?_
  refine (r_iln (dk D309c26 22 rfl) rfl).trans ?_
  refine (r_ic (dk D309c26 23 rfl) ci1).trans ?_
  refine (r_iadd (dk D309c26 24 rfl)).trans ?_
  refine (r_scr (dk D309c26 25 rfl)).trans (ck3 fun g1 => ?_)
  exact r_cv (dk D309c26 26 rfl) ow309 c13_142 mf273 (Nat.le_of_ble_eq_true rfl) rfl rfl (Nat.le_of_ble_eq_true rfl) (Nat.le_of_ble_eq_true rfl) ob_46
theorem E309_1197 {d sl : Nat} {p : Nat → Nat} {I : Nat → Nat → Int32} {J : Nat → Nat → Int64} (i : Int32) (z x : Int32) : ev d 309 1197 [.ref 0, .ref 1, .ref 46, .int i] [.int z, .int x] (S sl p I J) = (if x = z then ev d 309 1763 [.ref 0, .ref 1, .ref 46, .int i] [] (S sl p I J) else some (some (.int 0), (S sl p I J))) := by
  refine (r_eq (dk D309c26 27 rfl) rfl).trans (ite2 ?_ ?_)
  · exact rfl
  · refine (r_ic (dk D309c26 28 rfl) ci0).trans ?_
    exact r_rez (dk D309c26 29 rfl) rt309 (by decide)
theorem E309_1202 {d sl : Nat} {p : Nat → Nat} {I : Nat → Nat → Int32} {J : Nat → Nat → Int64} (i : Int32) : ev (d + 1) 309 1202 [.ref 0, .ref 1, .ref 46, .int i] [] (S sl p I J) = ck (ixb sl (i + 1)) ((if (I 0 (Int32.toNatClampNeg (i + 1))) = 0 then ck (ixb sl (i + 2)) (evK (d + 1) 309 1224 [.ref 0, .ref 1, .ref 46, .int i] [] (den d 149 [.ref 1, .int 0, .int (I 0 (Int32.toNatClampNeg (i + 2)))] (S sl p I J))) else ck (ixb sl (i + 2)) (evK (d + 1) 309 1224 [.ref 0, .ref 1, .ref 46, .int i] [] (den d 149 [.ref 1, .int 1, .int (I 0 (Int32.toNatClampNeg (i + 2)))] (S sl p I J))))) := by
  refine (r_aln (dk D309c27 0 rfl) rfl).trans ?_
  refine (r_aln (dk D309c27 1 rfl) rfl).trans ?_
  refine (r_iln (dk D309c27 2 rfl) rfl).trans ?_
  refine (r_ic (dk D309c27 3 rfl) ci1).trans ?_
  refine (r_iadd (dk D309c27 4 rfl)).trans ?_
  refine (r_scr (dk D309c27 5 rfl)).trans (ck3 fun g1 => ?_)
  refine (r_eq0 (dk D309c27 6 rfl) rfl).trans (ite2 ?_ ?_)
  · refine (r_ic (dk D309c27 9 rfl) ci0).trans ?_
    refine (r_aln (dk D309c27 10 rfl) rfl).trans ?_
    refine (r_iln (dk D309c27 11 rfl) rfl).trans ?_
    refine (r_ic (dk D309c27 12 rfl) ci2).trans ?_
    refine (r_iadd (dk D309c27 13 rfl)).trans ?_
    refine (r_scr (dk D309c27 14 rfl)).trans (ck3 fun g2 => ?_)
    exact r_cv (dk D309c27 15 rfl) ow309 c13_143 mf149 (Nat.le_of_ble_eq_true rfl) rfl rfl (Nat.le_of_ble_eq_true rfl) (Nat.le_of_ble_eq_true rfl) ob_1
  · refine (r_ic (dk D309c27 7 rfl) ci1).trans ?_
    refine (r_goto (L' := [.ref 0, .ref 1, .ref 46, .int i]) (dk D309c27 8 rfl) rfl nd309_1216 rfl).trans ?_
    refine (r_aln (dk D309c27 10 rfl) rfl).trans ?_
    refine (r_iln (dk D309c27 11 rfl) rfl).trans ?_
    refine (r_ic (dk D309c27 12 rfl) ci2).trans ?_
    refine (r_iadd (dk D309c27 13 rfl)).trans ?_
    refine (r_scr (dk D309c27 14 rfl)).trans (ck3 fun g3 => ?_)
    exact r_cv (dk D309c27 15 rfl) ow309 c13_143 mf149 (Nat.le_of_ble_eq_true rfl) rfl rfl (Nat.le_of_ble_eq_true rfl) (Nat.le_of_ble_eq_true rfl) ob_1
theorem E309_1224 {d sl : Nat} {p : Nat → Nat} {I : Nat → Nat → Int32} {J : Nat → Nat → Int64} (i : Int32) (x : Int32) : ev (d + 1) 309 1224 [.ref 0, .ref 1, .ref 46, .int i] [.int x] (S sl p I J) = ck (ixb sl (i + 1)) ((if (I 0 (Int32.toNatClampNeg (i + 1))) = 0 then ck (ixb sl (i + 2)) (evK (d + 1) 309 1246 [.ref 0, .ref 1, .ref 46, .int i] [.int x] (den d 275 [.ref 46, .int 0, .int (I 0 (Int32.toNatClampNeg (i + 2)))] (S sl p I J))) else ck (ixb sl (i + 2)) (evK (d + 1) 309 1246 [.ref 0, .ref 1, .ref 46, .int i] [.int x] (den d 275 [.ref 46, .int 1, .int (I 0 (Int32.toNatClampNeg (i + 2)))] (S sl p I J))))) := by
  refine (r_aln (dk D309c27 16 rfl) rfl).trans ?_
  refine (r_aln (dk D309c27 17 rfl) rfl).trans ?_
  refine (r_iln (dk D309c27 18 rfl) rfl).trans ?_
  refine (r_ic (dk D309c27 19 rfl) ci1).trans ?_
  refine (r_iadd (dk D309c27 20 rfl)).trans ?_
  refine (r_scr (dk D309c27 21 rfl)).trans (ck3 fun g1 => ?_)
  refine (r_eq0 (dk D309c27 22 rfl) rfl).trans (ite2 ?_ ?_)
  · refine (r_ic (dk D309c27 25 rfl) ci0).trans ?_
    refine (r_aln (dk D309c27 26 rfl) rfl).trans ?_
    refine (r_iln (dk D309c27 27 rfl) rfl).trans ?_
    refine (r_ic (dk D309c27 28 rfl) ci2).trans ?_
    refine (r_iadd (dk D309c27 29 rfl)).trans ?_
    refine (r_scr (dk D309c28 0 rfl)).trans (ck3 fun g2 => ?_)
    exact r_cv (dk D309c28 1 rfl) ow309 c13_147 mf275 (Nat.le_of_ble_eq_true rfl) rfl rfl (Nat.le_of_ble_eq_true rfl) (Nat.le_of_ble_eq_true rfl) ob_46
  · refine (r_ic (dk D309c27 23 rfl) ci1).trans ?_
    refine (r_goto (L' := [.ref 0, .ref 1, .ref 46, .int i]) (dk D309c27 24 rfl) rfl nd309_1238 rfl).trans ?_
    refine (r_aln (dk D309c27 26 rfl) rfl).trans ?_
    refine (r_iln (dk D309c27 27 rfl) rfl).trans ?_
    refine (r_ic (dk D309c27 28 rfl) ci2).trans ?_
    refine (r_iadd (dk D309c27 29 rfl)).trans ?_
    refine (r_scr (dk D309c28 0 rfl)).trans (ck3 fun g3 => ?_)
    exact r_cv (dk D309c28 1 rfl) ow309 c13_147 mf275 (Nat.le_of_ble_eq_true rfl) rfl rfl (Nat.le_of_ble_eq_true rfl) (Nat.le_of_ble_eq_true rfl) ob_46
theorem E309_1246 {d sl : Nat} {p : Nat → Nat} {I : Nat → Nat → Int32} {J : Nat → Nat → Int64} (i : Int32) (z x : Int32) : ev d 309 1246 [.ref 0, .ref 1, .ref 46, .int i] [.int z, .int x] (S sl p I J) = (if x = z then ev d 309 1763 [.ref 0, .ref 1, .ref 46, .int i] [] (S sl p I J) else some (some (.int 0), (S sl p I J))) := by
  refine (r_eq (dk D309c28 2 rfl) rfl).trans (ite2 ?_ ?_)
  · exact rfl
  · refine (r_ic (dk D309c28 3 rfl) ci0).trans ?_
    exact r_rez (dk D309c28 4 rfl) rt309 (by decide)
theorem E309_1251 {d sl : Nat} {p : Nat → Nat} {I : Nat → Nat → Int32} {J : Nat → Nat → Int64} (i : Int32) : ev (d + 1) 309 1251 [.ref 0, .ref 1, .ref 46, .int i] [] (S sl p I J) = ck (ixb sl (i + 1)) (evK (d + 1) 309 1260 [.ref 0, .ref 1, .ref 46, .int i] [] (den d 150 [.ref 1, .int (I 0 (Int32.toNatClampNeg (i + 1)))] (S sl p I J))) := by
  refine (r_aln (dk D309c28 5 rfl) rfl).trans ?_
  refine (r_aln (dk D309c28 6 rfl) rfl).trans ?_
  refine (r_iln (dk D309c28 7 rfl) rfl).trans ?_
  refine (r_ic (dk D309c28 8 rfl) ci1).trans ?_
  refine (r_iadd (dk D309c28 9 rfl)).trans ?_
  refine (r_scr (dk D309c28 10 rfl)).trans (ck3 fun g1 => ?_)
  exact r_cv (dk D309c28 11 rfl) ow309 c13_148 mf150 (Nat.le_of_ble_eq_true rfl) rfl rfl (Nat.le_of_ble_eq_true rfl) (Nat.le_of_ble_eq_true rfl) ob_1
theorem E309_1260 {d sl : Nat} {p : Nat → Nat} {I : Nat → Nat → Int32} {J : Nat → Nat → Int64} (i : Int32) (x : Int32) : ev (d + 1) 309 1260 [.ref 0, .ref 1, .ref 46, .int i] [.int x] (S sl p I J) = ck (ixb sl (i + 1)) (evK (d + 1) 309 1269 [.ref 0, .ref 1, .ref 46, .int i] [.int x] (den d 276 [.ref 46, .int (I 0 (Int32.toNatClampNeg (i + 1)))] (S sl p I J))) := by
  refine (r_aln (dk D309c28 12 rfl) rfl).trans ?_
  refine (r_aln (dk D309c28 13 rfl) rfl).trans ?_
  refine (r_iln (dk D309c28 14 rfl) rfl).trans ?_
  refine (r_ic (dk D309c28 15 rfl) ci1).trans ?_
  refine (r_iadd (dk D309c28 16 rfl)).trans ?_
  refine (r_scr (dk D309c28 17 rfl)).trans (ck3 fun g1 => ?_)
  exact r_cv (dk D309c28 18 rfl) ow309 c13_151 mf276 (Nat.le_of_ble_eq_true rfl) rfl rfl (Nat.le_of_ble_eq_true rfl) (Nat.le_of_ble_eq_true rfl) ob_46
theorem E309_1269 {d sl : Nat} {p : Nat → Nat} {I : Nat → Nat → Int32} {J : Nat → Nat → Int64} (i : Int32) (z x : Int32) : ev d 309 1269 [.ref 0, .ref 1, .ref 46, .int i] [.int z, .int x] (S sl p I J) = (if x = z then ev d 309 1763 [.ref 0, .ref 1, .ref 46, .int i] [] (S sl p I J) else some (some (.int 0), (S sl p I J))) := by
  refine (r_eq (dk D309c28 19 rfl) rfl).trans (ite2 ?_ ?_)
  · exact rfl
  · refine (r_ic (dk D309c28 20 rfl) ci0).trans ?_
    exact r_rez (dk D309c28 21 rfl) rt309 (by decide)
theorem E309_1274 {d sl : Nat} {p : Nat → Nat} {I : Nat → Nat → Int32} {J : Nat → Nat → Int64} (i : Int32) : ev (d + 1) 309 1274 [.ref 0, .ref 1, .ref 46, .int i] [] (S sl p I J) = ck (ixb sl (i + 1)) (ck (ixb sl (i + 2)) (ck (ixb sl (i + 3)) (evK (d + 1) 309 1293 [.ref 0, .ref 1, .ref 46, .int i] [] (den d 151 [.ref 1, .int (I 0 (Int32.toNatClampNeg (i + 1))), .int (I 0 (Int32.toNatClampNeg (i + 2))), .int (I 0 (Int32.toNatClampNeg (i + 3)))] (S sl p I J))))) := by
  refine (r_aln (dk D309c28 22 rfl) rfl).trans ?_
  refine (r_aln (dk D309c28 23 rfl) rfl).trans ?_
  refine (r_iln (dk D309c28 24 rfl) rfl).trans ?_
  refine (r_ic (dk D309c28 25 rfl) ci1).trans ?_
  refine (r_iadd (dk D309c28 26 rfl)).trans ?_
  refine (r_scr (dk D309c28 27 rfl)).trans (ck3 fun g1 => ?_)
  refine (r_aln (dk D309c28 28 rfl) rfl).trans ?_
  refine (r_iln (dk D309c28 29 rfl) rfl).trans ?_
  refine (r_ic (dk D309c29 0 rfl) ci2).trans ?_
  refine (r_iadd (dk D309c29 1 rfl)).trans ?_
  refine (r_scr (dk D309c29 2 rfl)).trans (ck3 fun g2 => ?_)
  refine (r_aln (dk D309c29 3 rfl) rfl).trans ?_
  refine (r_iln (dk D309c29 4 rfl) rfl).trans ?_
  refine (r_ic (dk D309c29 5 rfl) ci3).trans ?_
  refine (r_iadd (dk D309c29 6 rfl)).trans ?_
  refine (r_scr (dk D309c29 7 rfl)).trans (ck3 fun g3 => ?_)
  exact r_cv (dk D309c29 8 rfl) ow309 c13_152 mf151 (Nat.le_of_ble_eq_true rfl) rfl rfl (Nat.le_of_ble_eq_true rfl) (Nat.le_of_ble_eq_true rfl) ob_1
theorem E309_1293 {d sl : Nat} {p : Nat → Nat} {I : Nat → Nat → Int32} {J : Nat → Nat → Int64} (i : Int32) (x : Int32) : ev (d + 1) 309 1293 [.ref 0, .ref 1, .ref 46, .int i] [.int x] (S sl p I J) = ck (ixb sl (i + 1)) (ck (ixb sl (i + 2)) (ck (ixb sl (i + 3)) (evK (d + 1) 309 1312 [.ref 0, .ref 1, .ref 46, .int i] [.int x] (den d 277 [.ref 46, .int (I 0 (Int32.toNatClampNeg (i + 1))), .int (I 0 (Int32.toNatClampNeg (i + 2))), .int (I 0 (Int32.toNatClampNeg (i + 3)))] (S sl p I J))))) := by
  refine (r_aln (dk D309c29 9 rfl) rfl).trans ?_
  refine (r_aln (dk D309c29 10 rfl) rfl).trans ?_
  refine (r_iln (dk D309c29 11 rfl) rfl).trans ?_
  refine (r_ic (dk D309c29 12 rfl) ci1).trans ?_
  refine (r_iadd (dk D309c29 13 rfl)).trans ?_
  refine (r_scr (dk D309c29 14 rfl)).trans (ck3 fun g1 => ?_)
  refine (r_aln (dk D309c29 15 rfl) rfl).trans ?_
  refine (r_iln (dk D309c29 16 rfl) rfl).trans ?_
  refine (r_ic (dk D309c29 17 rfl) ci2).trans ?_
  refine (r_iadd (dk D309c29 18 rfl)).trans ?_
  refine (r_scr (dk D309c29 19 rfl)).trans (ck3 fun g2 => ?_)
  refine (r_aln (dk D309c29 20 rfl) rfl).trans ?_
  refine (r_iln (dk D309c29 21 rfl) rfl).trans ?_
  refine (r_ic (dk D309c29 22 rfl) ci3).trans ?_
  refine (r_iadd (dk D309c29 23 rfl)).trans ?_
  refine (r_scr (dk D309c29 24 rfl)).trans (ck3 fun g3 => ?_)
  exact r_cv (dk D309c29 25 rfl) ow309 c13_155 mf277 (Nat.le_of_ble_eq_true rfl) rfl rfl (Nat.le_of_ble_eq_true rfl) (Nat.le_of_ble_eq_true rfl) ob_46
theorem E309_1312 {d sl : Nat} {p : Nat → Nat} {I : Nat → Nat → Int32} {J : Nat → Nat → Int64} (i : Int32) (z x : Int32) : ev d 309 1312 [.ref 0, .ref 1, .ref 46, .int i] [.int z, .int x] (S sl p I J) = (if x = z then ev d 309 1763 [.ref 0, .ref 1, .ref 46, .int i] [] (S sl p I J) else some (some (.int 0), (S sl p I J))) := by
  refine (r_eq (dk D309c29 26 rfl) rfl).trans (ite2 ?_ ?_)
  · exact rfl
  · refine (r_ic (dk D309c29 27 rfl) ci0).trans ?_
    exact r_rez (dk D309c29 28 rfl) rt309 (by decide)
theorem E309_1317 {d sl : Nat} {p : Nat → Nat} {I : Nat → Nat → Int32} {J : Nat → Nat → Int64} (i : Int32) : ev (d + 1) 309 1317 [.ref 0, .ref 1, .ref 46, .int i] [] (S sl p I J) = ck (ixb sl (i + 1)) (ck (ixb sl (i + 2)) (evK (d + 1) 309 1331 [.ref 0, .ref 1, .ref 46, .int i] [] (den d 152 [.ref 1, .int (I 0 (Int32.toNatClampNeg (i + 1))), .int (I 0 (Int32.toNatClampNeg (i + 2)))] (S sl p I J)))) := by
  refine (r_aln (dk D309c29 29 rfl) rfl).trans ?_
  refine (r_aln (dk D309c30 0 rfl) rfl).trans ?_
  refine (r_iln (dk D309c30 1 rfl) rfl).trans ?_
  refine (r_ic (dk D309c30 2 rfl) ci1).trans ?_
  refine (r_iadd (dk D309c30 3 rfl)).trans ?_
  refine (r_scr (dk D309c30 4 rfl)).trans (ck3 fun g1 => ?_)
  refine (r_aln (dk D309c30 5 rfl) rfl).trans ?_
  refine (r_iln (dk D309c30 6 rfl) rfl).trans ?_
  refine (r_ic (dk D309c30 7 rfl) ci2).trans ?_
  refine (r_iadd (dk D309c30 8 rfl)).trans ?_
  refine (r_scr (dk D309c30 9 rfl)).trans (ck3 fun g2 => ?_)
  exact r_cv (dk D309c30 10 rfl) ow309 c13_156 mf152 (Nat.le_of_ble_eq_true rfl) rfl rfl (Nat.le_of_ble_eq_true rfl) (Nat.le_of_ble_eq_true rfl) ob_1
theorem E309_1331 {d sl : Nat} {p : Nat → Nat} {I : Nat → Nat → Int32} {J : Nat → Nat → Int64} (i : Int32) (x : Int32) : ev (d + 1) 309 1331 [.ref 0, .ref 1, .ref 46, .int i] [.int x] (S sl p I J) = ck (ixb sl (i + 1)) (ck (ixb sl (i + 2)) (evK (d + 1) 309 1345 [.ref 0, .ref 1, .ref 46, .int i] [.int x] (den d 278 [.ref 46, .int (I 0 (Int32.toNatClampNeg (i + 1))), .int (I 0 (Int32.toNatClampNeg (i + 2)))] (S sl p I J)))) := by
  refine (r_aln (dk D309c30 11 rfl) rfl).trans ?_
  refine (r_aln (dk D309c30 12 rfl) rfl).trans ?_
  refine (r_iln (dk D309c30 13 rfl) rfl).trans ?_
  refine (r_ic (dk D309c30 14 rfl) ci1).trans ?_
  refine (r_iadd (dk D309c30 15 rfl)).trans ?_
  refine (r_scr (dk D309c30 16 rfl)).trans (ck3 fun g1 => ?_)
  refine (r_aln (dk D309c30 17 rfl) rfl).trans ?_
  refine (r_iln (dk D309c30 18 rfl) rfl).trans ?_
  refine (r_ic (dk D309c30 19 rfl) ci2).trans ?_
  refine (r_iadd (dk D309c30 20 rfl)).trans ?_
  refine (r_scr (dk D309c30 21 rfl)).trans (ck3 fun g2 => ?_)
  exact r_cv (dk D309c30 22 rfl) ow309 c13_159 mf278 (Nat.le_of_ble_eq_true rfl) rfl rfl (Nat.le_of_ble_eq_true rfl) (Nat.le_of_ble_eq_true rfl) ob_46
theorem E309_1345 {d sl : Nat} {p : Nat → Nat} {I : Nat → Nat → Int32} {J : Nat → Nat → Int64} (i : Int32) (z x : Int32) : ev d 309 1345 [.ref 0, .ref 1, .ref 46, .int i] [.int z, .int x] (S sl p I J) = (if x = z then ev d 309 1763 [.ref 0, .ref 1, .ref 46, .int i] [] (S sl p I J) else some (some (.int 0), (S sl p I J))) := by
  refine (r_eq (dk D309c30 23 rfl) rfl).trans (ite2 ?_ ?_)
  · exact rfl
  · refine (r_ic (dk D309c30 24 rfl) ci0).trans ?_
    exact r_rez (dk D309c30 25 rfl) rt309 (by decide)
theorem E309_1350 {d sl : Nat} {p : Nat → Nat} {I : Nat → Nat → Int32} {J : Nat → Nat → Int64} (i : Int32) : ev (d + 1) 309 1350 [.ref 0, .ref 1, .ref 46, .int i] [] (S sl p I J) = ck (ixb sl (i + 1)) (ck (ixb sl (i + 2)) (ck (ixb sl (i + 3)) (evK (d + 1) 309 1369 [.ref 0, .ref 1, .ref 46, .int i] [] (den d 153 [.ref 1, .int (I 0 (Int32.toNatClampNeg (i + 1))), .int (I 0 (Int32.toNatClampNeg (i + 2))), .int (I 0 (Int32.toNatClampNeg (i + 3)))] (S sl p I J))))) := by
  refine (r_aln (dk D309c30 26 rfl) rfl).trans ?_
  refine (r_aln (dk D309c30 27 rfl) rfl).trans ?_
  refine (r_iln (dk D309c30 28 rfl) rfl).trans ?_
  refine (r_ic (dk D309c30 29 rfl) ci1).trans ?_
  refine (r_iadd (dk D309c31 0 rfl)).trans ?_
  refine (r_scr (dk D309c31 1 rfl)).trans (ck3 fun g1 => ?_)
  refine (r_aln (dk D309c31 2 rfl) rfl).trans ?_
  refine (r_iln (dk D309c31 3 rfl) rfl).trans ?_
  refine (r_ic (dk D309c31 4 rfl) ci2).trans ?_
  refine (r_iadd (dk D309c31 5 rfl)).trans ?_
  refine (r_scr (dk D309c31 6 rfl)).trans (ck3 fun g2 => ?_)
  refine (r_aln (dk D309c31 7 rfl) rfl).trans ?_
  refine (r_iln (dk D309c31 8 rfl) rfl).trans ?_
  refine (r_ic (dk D309c31 9 rfl) ci3).trans ?_
  refine (r_iadd (dk D309c31 10 rfl)).trans ?_
  refine (r_scr (dk D309c31 11 rfl)).trans (ck3 fun g3 => ?_)
  exact r_cv (dk D309c31 12 rfl) ow309 c13_160 mf153 (Nat.le_of_ble_eq_true rfl) rfl rfl (Nat.le_of_ble_eq_true rfl) (Nat.le_of_ble_eq_true rfl) ob_1
theorem E309_1369 {d sl : Nat} {p : Nat → Nat} {I : Nat → Nat → Int32} {J : Nat → Nat → Int64} (i : Int32) (x : Int32) : ev (d + 1) 309 1369 [.ref 0, .ref 1, .ref 46, .int i] [.int x] (S sl p I J) = ck (ixb sl (i + 1)) (ck (ixb sl (i + 2)) (ck (ixb sl (i + 3)) (evK (d + 1) 309 1388 [.ref 0, .ref 1, .ref 46, .int i] [.int x] (den d 281 [.ref 46, .int (I 0 (Int32.toNatClampNeg (i + 1))), .int (I 0 (Int32.toNatClampNeg (i + 2))), .int (I 0 (Int32.toNatClampNeg (i + 3)))] (S sl p I J))))) := by
  refine (r_aln (dk D309c31 13 rfl) rfl).trans ?_
  refine (r_aln (dk D309c31 14 rfl) rfl).trans ?_
  refine (r_iln (dk D309c31 15 rfl) rfl).trans ?_
  refine (r_ic (dk D309c31 16 rfl) ci1).trans ?_
  refine (r_iadd (dk D309c31 17 rfl)).trans ?_
  refine (r_scr (dk D309c31 18 rfl)).trans (ck3 fun g1 => ?_)
  refine (r_aln (dk D309c31 19 rfl) rfl).trans ?_
  refine (r_iln (dk D309c31 20 rfl) rfl).trans ?_
  refine (r_ic (dk D309c31 21 rfl) ci2).trans ?_
  refine (r_iadd (dk D309c31 22 rfl)).trans ?_
  refine (r_scr (dk D309c31 23 rfl)).trans (ck3 fun g2 => ?_)
  refine (r_aln (dk D309c31 24 rfl) rfl).trans ?_
  refine (r_iln (dk D309c31 25 rfl) rfl).trans ?_
  refine (r_ic (dk D309c31 26 rfl) ci3).trans ?_
  refine (r_iadd (dk D309c31 27 rfl)).trans ?_
  refine (r_scr (dk D309c31 28 rfl)).trans (ck3 fun g3 => ?_)
  exact r_cv (dk D309c31 29 rfl) ow309 c13_163 mf281 (Nat.le_of_ble_eq_true rfl) rfl rfl (Nat.le_of_ble_eq_true rfl) (Nat.le_of_ble_eq_true rfl) ob_46
theorem E309_1388 {d sl : Nat} {p : Nat → Nat} {I : Nat → Nat → Int32} {J : Nat → Nat → Int64} (i : Int32) (z x : Int32) : ev d 309 1388 [.ref 0, .ref 1, .ref 46, .int i] [.int z, .int x] (S sl p I J) = (if x = z then ev d 309 1763 [.ref 0, .ref 1, .ref 46, .int i] [] (S sl p I J) else some (some (.int 0), (S sl p I J))) := by
  refine (r_eq (dk D309c32 0 rfl) rfl).trans (ite2 ?_ ?_)
  · exact rfl
  · refine (r_ic (dk D309c32 1 rfl) ci0).trans ?_
    exact r_rez (dk D309c32 2 rfl) rt309 (by decide)
theorem E309_1393 {d sl : Nat} {p : Nat → Nat} {I : Nat → Nat → Int32} {J : Nat → Nat → Int64} (i : Int32) : ev (d + 1) 309 1393 [.ref 0, .ref 1, .ref 46, .int i] [] (S sl p I J) = ck (ixb sl (i + 1)) (ck (ixb sl (i + 2)) (ck (ixb sl (i + 3)) (ck (ixb sl (i + 4)) (ck (ixb sl (i + 5)) (evK (d + 1) 309 1422 [.ref 0, .ref 1, .ref 46, .int i] [] (den d 154 [.ref 1, .int (I 0 (Int32.toNatClampNeg (i + 1))), .int (I 0 (Int32.toNatClampNeg (i + 2))), .int (I 0 (Int32.toNatClampNeg (i + 3))), .int (I 0 (Int32.toNatClampNeg (i + 4))), .int (I 0 (Int32.toNatClampNeg (i + 5)))] (S sl p I J))))))) := by
  refine (r_aln (dk D309c32 3 rfl) rfl).trans ?_
  refine (r_aln (dk D309c32 4 rfl) rfl).trans ?_
  refine (r_iln (dk D309c32 5 rfl) rfl).trans ?_
  refine (r_ic (dk D309c32 6 rfl) ci1).trans ?_
  refine (r_iadd (dk D309c32 7 rfl)).trans ?_
  refine (r_scr (dk D309c32 8 rfl)).trans (ck3 fun g1 => ?_)
  refine (r_aln (dk D309c32 9 rfl) rfl).trans ?_
  refine (r_iln (dk D309c32 10 rfl) rfl).trans ?_
  refine (r_ic (dk D309c32 11 rfl) ci2).trans ?_
  refine (r_iadd (dk D309c32 12 rfl)).trans ?_
  refine (r_scr (dk D309c32 13 rfl)).trans (ck3 fun g2 => ?_)
  refine (r_aln (dk D309c32 14 rfl) rfl).trans ?_
  refine (r_iln (dk D309c32 15 rfl) rfl).trans ?_
  refine (r_ic (dk D309c32 16 rfl) ci3).trans ?_
  refine (r_iadd (dk D309c32 17 rfl)).trans ?_
  refine (r_scr (dk D309c32 18 rfl)).trans (ck3 fun g3 => ?_)
  refine (r_aln (dk D309c32 19 rfl) rfl).trans ?_
  refine (r_iln (dk D309c32 20 rfl) rfl).trans ?_
  refine (r_ic (dk D309c32 21 rfl) ci4).trans ?_
  refine (r_iadd (dk D309c32 22 rfl)).trans ?_
  refine (r_scr (dk D309c32 23 rfl)).trans (ck3 fun g4 => ?_)
  refine (r_aln (dk D309c32 24 rfl) rfl).trans ?_
  refine (r_iln (dk D309c32 25 rfl) rfl).trans ?_
  refine (r_ic (dk D309c32 26 rfl) ci5).trans ?_
  refine (r_iadd (dk D309c32 27 rfl)).trans ?_
  refine (r_scr (dk D309c32 28 rfl)).trans (ck3 fun g5 => ?_)
  exact r_cv (dk D309c32 29 rfl) ow309 c13_164 mf154 (Nat.le_of_ble_eq_true rfl) rfl rfl (Nat.le_of_ble_eq_true rfl) (Nat.le_of_ble_eq_true rfl) ob_1
theorem E309_1422 {d sl : Nat} {p : Nat → Nat} {I : Nat → Nat → Int32} {J : Nat → Nat → Int64} (i : Int32) (x : Int32) : ev (d + 1) 309 1422 [.ref 0, .ref 1, .ref 46, .int i] [.int x] (S sl p I J) = ck (ixb sl (i + 1)) (ck (ixb sl (i + 2)) (ck (ixb sl (i + 3)) (ck (ixb sl (i + 4)) (ck (ixb sl (i + 5)) (evK (d + 1) 309 1451 [.ref 0, .ref 1, .ref 46, .int i] [.int x] (den d 282 [.ref 46, .int (I 0 (Int32.toNatClampNeg (i + 1))), .int (I 0 (Int32.toNatClampNeg (i + 2))), .int (I 0 (Int32.toNatClampNeg (i + 3))), .int (I 0 (Int32.toNatClampNeg (i + 4))), .int (I 0 (Int32.toNatClampNeg (i + 5)))] (S sl p I J))))))) := by
  refine (r_aln (dk D309c33 0 rfl) rfl).trans ?_
  refine (r_aln (dk D309c33 1 rfl) rfl).trans ?_
  refine (r_iln (dk D309c33 2 rfl) rfl).trans ?_
  refine (r_ic (dk D309c33 3 rfl) ci1).trans ?_
  refine (r_iadd (dk D309c33 4 rfl)).trans ?_
  refine (r_scr (dk D309c33 5 rfl)).trans (ck3 fun g1 => ?_)
  refine (r_aln (dk D309c33 6 rfl) rfl).trans ?_
  refine (r_iln (dk D309c33 7 rfl) rfl).trans ?_
  refine (r_ic (dk D309c33 8 rfl) ci2).trans ?_
  refine (r_iadd (dk D309c33 9 rfl)).trans ?_
  refine (r_scr (dk D309c33 10 rfl)).trans (ck3 fun g2 => ?_)
  refine (r_aln (dk D309c33 11 rfl) rfl).trans ?_
  refine (r_iln (dk D309c33 12 rfl) rfl).trans ?_
  refine (r_ic (dk D309c33 13 rfl) ci3).trans ?_
  refine (r_iadd (dk D309c33 14 rfl)).trans ?_
  refine (r_scr (dk D309c33 15 rfl)).trans (ck3 fun g3 => ?_)
  refine (r_aln (dk D309c33 16 rfl) rfl).trans ?_
  refine (r_iln (dk D309c33 17 rfl) rfl).trans ?_
  refine (r_ic (dk D309c33 18 rfl) ci4).trans ?_
  refine (r_iadd (dk D309c33 19 rfl)).trans ?_
  refine (r_scr (dk D309c33 20 rfl)).trans (ck3 fun g4 => ?_)
  refine (r_aln (dk D309c33 21 rfl) rfl).trans ?_
  refine (r_iln (dk D309c33 22 rfl) rfl).trans ?_
  refine (r_ic (dk D309c33 23 rfl) ci5).trans ?_
  refine (r_iadd (dk D309c33 24 rfl)).trans ?_
  refine (r_scr (dk D309c33 25 rfl)).trans (ck3 fun g5 => ?_)
  exact r_cv (dk D309c33 26 rfl) ow309 c13_168 mf282 (Nat.le_of_ble_eq_true rfl) rfl rfl (Nat.le_of_ble_eq_true rfl) (Nat.le_of_ble_eq_true rfl) ob_46
theorem E309_1451 {d sl : Nat} {p : Nat → Nat} {I : Nat → Nat → Int32} {J : Nat → Nat → Int64} (i : Int32) (z x : Int32) : ev d 309 1451 [.ref 0, .ref 1, .ref 46, .int i] [.int z, .int x] (S sl p I J) = (if x = z then ev d 309 1763 [.ref 0, .ref 1, .ref 46, .int i] [] (S sl p I J) else some (some (.int 0), (S sl p I J))) := by
  refine (r_eq (dk D309c33 27 rfl) rfl).trans (ite2 ?_ ?_)
  · exact rfl
  · refine (r_ic (dk D309c33 28 rfl) ci0).trans ?_
    exact r_rez (dk D309c33 29 rfl) rt309 (by decide)
theorem E309_1456 {d sl : Nat} {p : Nat → Nat} {I : Nat → Nat → Int32} {J : Nat → Nat → Int64} (i : Int32) : ev (d + 1) 309 1456 [.ref 0, .ref 1, .ref 46, .int i] [] (S sl p I J) = ck (ixb sl (i + 1)) (ck (ixb sl (i + 2)) (ck (ixb sl (i + 3)) (ck (ixb sl (i + 4)) (ck (ixb sl (i + 5)) (ck (ixb sl (i + 6)) (evK (d + 1) 309 1491 [.ref 0, .ref 1, .ref 46, .int i] [] (den d 155 [.ref 1, .int (I 0 (Int32.toNatClampNeg (i + 1))), .int (I 0 (Int32.toNatClampNeg (i + 2))), .int (I 0 (Int32.toNatClampNeg (i + 3))), .int (I 0 (Int32.toNatClampNeg (i + 4))), .int (I 0 (Int32.toNatClampNeg (i + 5))), .int (I 0 (Int32.toNatClampNeg (i + 6)))] (S sl p I J)))))))) := by
  refine (r_aln (dk D309c34 0 rfl) rfl).trans ?_
  refine (r_aln (dk D309c34 1 rfl) rfl).trans ?_
  refine (r_iln (dk D309c34 2 rfl) rfl).trans ?_
  refine (r_ic (dk D309c34 3 rfl) ci1).trans ?_
  refine (r_iadd (dk D309c34 4 rfl)).trans ?_
  refine (r_scr (dk D309c34 5 rfl)).trans (ck3 fun g1 => ?_)
  refine (r_aln (dk D309c34 6 rfl) rfl).trans ?_
  refine (r_iln (dk D309c34 7 rfl) rfl).trans ?_
  refine (r_ic (dk D309c34 8 rfl) ci2).trans ?_
  refine (r_iadd (dk D309c34 9 rfl)).trans ?_
  refine (r_scr (dk D309c34 10 rfl)).trans (ck3 fun g2 => ?_)
  refine (r_aln (dk D309c34 11 rfl) rfl).trans ?_
  refine (r_iln (dk D309c34 12 rfl) rfl).trans ?_
  refine (r_ic (dk D309c34 13 rfl) ci3).trans ?_
  refine (r_iadd (dk D309c34 14 rfl)).trans ?_
  refine (r_scr (dk D309c34 15 rfl)).trans (ck3 fun g3 => ?_)
  refine (r_aln (dk D309c34 16 rfl) rfl).trans ?_
  refine (r_iln (dk D309c34 17 rfl) rfl).trans ?_
  refine (r_ic (dk D309c34 18 rfl) ci4).trans ?_
  refine (r_iadd (dk D309c34 19 rfl)).trans ?_
  refine (r_scr (dk D309c34 20 rfl)).trans (ck3 fun g4 => ?_)
  refine (r_aln (dk D309c34 21 rfl) rfl).trans ?_
  refine (r_iln (dk D309c34 22 rfl) rfl).trans ?_
  refine (r_ic (dk D309c34 23 rfl) ci5).trans ?_
  refine (r_iadd (dk D309c34 24 rfl)).trans ?_
  refine (r_scr (dk D309c34 25 rfl)).trans (ck3 fun g5 => ?_)
  refine (r_aln (dk D309c34 26 rfl) rfl).trans ?_
  refine (r_iln (dk D309c34 27 rfl) rfl).trans ?_
  refine (r_bp (dk D309c34 28 rfl) cb6).trans ?_
  refine (r_iadd (dk D309c34 29 rfl)).trans ?_
  refine (r_scr (dk D309c35 0 rfl)).trans (ck3 fun g6 => ?_)
  exact r_cv (dk D309c35 1 rfl) ow309 c13_169 mf155 (Nat.le_of_ble_eq_true rfl) rfl rfl (Nat.le_of_ble_eq_true rfl) (Nat.le_of_ble_eq_true rfl) ob_1
theorem E309_1491 {d sl : Nat} {p : Nat → Nat} {I : Nat → Nat → Int32} {J : Nat → Nat → Int64} (i : Int32) (x : Int64) : ev (d + 1) 309 1491 [.ref 0, .ref 1, .ref 46, .int i] [.long x] (S sl p I J) = ck (ixb sl (i + 1)) (ck (ixb sl (i + 2)) (ck (ixb sl (i + 3)) (ck (ixb sl (i + 4)) (ck (ixb sl (i + 5)) (ck (ixb sl (i + 6)) (evK (d + 1) 309 1526 [.ref 0, .ref 1, .ref 46, .int i] [.long x] (den d 286 [.ref 46, .int (I 0 (Int32.toNatClampNeg (i + 1))), .int (I 0 (Int32.toNatClampNeg (i + 2))), .int (I 0 (Int32.toNatClampNeg (i + 3))), .int (I 0 (Int32.toNatClampNeg (i + 4))), .int (I 0 (Int32.toNatClampNeg (i + 5))), .int (I 0 (Int32.toNatClampNeg (i + 6)))] (S sl p I J)))))))) := by
  refine (r_aln (dk D309c35 2 rfl) rfl).trans ?_
  refine (r_aln (dk D309c35 3 rfl) rfl).trans ?_
  refine (r_iln (dk D309c35 4 rfl) rfl).trans ?_
  refine (r_ic (dk D309c35 5 rfl) ci1).trans ?_
  refine (r_iadd (dk D309c35 6 rfl)).trans ?_
  refine (r_scr (dk D309c35 7 rfl)).trans (ck3 fun g1 => ?_)
  refine (r_aln (dk D309c35 8 rfl) rfl).trans ?_
  refine (r_iln (dk D309c35 9 rfl) rfl).trans ?_
  refine (r_ic (dk D309c35 10 rfl) ci2).trans ?_
  refine (r_iadd (dk D309c35 11 rfl)).trans ?_
  refine (r_scr (dk D309c35 12 rfl)).trans (ck3 fun g2 => ?_)
  refine (r_aln (dk D309c35 13 rfl) rfl).trans ?_
  refine (r_iln (dk D309c35 14 rfl) rfl).trans ?_
  refine (r_ic (dk D309c35 15 rfl) ci3).trans ?_
  refine (r_iadd (dk D309c35 16 rfl)).trans ?_
  refine (r_scr (dk D309c35 17 rfl)).trans (ck3 fun g3 => ?_)
  refine (r_aln (dk D309c35 18 rfl) rfl).trans ?_
  refine (r_iln (dk D309c35 19 rfl) rfl).trans ?_
  refine (r_ic (dk D309c35 20 rfl) ci4).trans ?_
  refine (r_iadd (dk D309c35 21 rfl)).trans ?_
  refine (r_scr (dk D309c35 22 rfl)).trans (ck3 fun g4 => ?_)
  refine (r_aln (dk D309c35 23 rfl) rfl).trans ?_
  refine (r_iln (dk D309c35 24 rfl) rfl).trans ?_
  refine (r_ic (dk D309c35 25 rfl) ci5).trans ?_
  refine (r_iadd (dk D309c35 26 rfl)).trans ?_
  refine (r_scr (dk D309c35 27 rfl)).trans (ck3 fun g5 => ?_)
  refine (r_aln (dk D309c35 28 rfl) rfl).trans ?_
  refine (r_iln (dk D309c35 29 rfl) rfl).trans ?_
  refine (r_bp (dk D309c36 0 rfl) cb6).trans ?_
  refine (r_iadd (dk D309c36 1 rfl)).trans ?_
  refine (r_scr (dk D309c36 2 rfl)).trans (ck3 fun g6 => ?_)
  exact r_cv (dk D309c36 3 rfl) ow309 c13_173 mf286 (Nat.le_of_ble_eq_true rfl) rfl rfl (Nat.le_of_ble_eq_true rfl) (Nat.le_of_ble_eq_true rfl) ob_46
theorem E309_1526 {d sl : Nat} {p : Nat → Nat} {I : Nat → Nat → Int32} {J : Nat → Nat → Int64} (i : Int32) (z x : Int64) : ev d 309 1526 [.ref 0, .ref 1, .ref 46, .int i] [.long z, .long x] (S sl p I J) = (if x = z then ev d 309 1763 [.ref 0, .ref 1, .ref 46, .int i] [] (S sl p I J) else some (some (.int 0), (S sl p I J))) := by
  refine (r_jeq (dk D309c36 4 rfl) (dk D309c36 5 rfl) rfl).trans (ite2 ?_ ?_)
  · exact rfl
  · refine (r_ic (dk D309c36 6 rfl) ci0).trans ?_
    exact r_rez (dk D309c36 7 rfl) rt309 (by decide)
theorem E309_1532 {d sl : Nat} {p : Nat → Nat} {I : Nat → Nat → Int32} {J : Nat → Nat → Int64} (i : Int32) : ev (d + 1) 309 1532 [.ref 0, .ref 1, .ref 46, .int i] [] (S sl p I J) = ck (ixb sl (i + 1)) (ck (ixb sl (i + 2)) (ck (ixb sl (i + 3)) (evK (d + 1) 309 1551 [.ref 0, .ref 1, .ref 46, .int i] [] (den d 156 [.ref 1, .int (I 0 (Int32.toNatClampNeg (i + 1))), .int (I 0 (Int32.toNatClampNeg (i + 2))), .int (I 0 (Int32.toNatClampNeg (i + 3)))] (S sl p I J))))) := by
  refine (r_aln (dk D309c36 8 rfl) rfl).trans ?_
  refine (r_aln (dk D309c36 9 rfl) rfl).trans ?_
  refine (r_iln (dk D309c36 10 rfl) rfl).trans ?_
  refine (r_ic (dk D309c36 11 rfl) ci1).trans ?_
  refine (r_iadd (dk D309c36 12 rfl)).trans ?_
  refine (r_scr (dk D309c36 13 rfl)).trans (ck3 fun g1 => ?_)
  refine (r_aln (dk D309c36 14 rfl) rfl).trans ?_
  refine (r_iln (dk D309c36 15 rfl) rfl).trans ?_
  refine (r_ic (dk D309c36 16 rfl) ci2).trans ?_
  refine (r_iadd (dk D309c36 17 rfl)).trans ?_
  refine (r_scr (dk D309c36 18 rfl)).trans (ck3 fun g2 => ?_)
  refine (r_aln (dk D309c36 19 rfl) rfl).trans ?_
  refine (r_iln (dk D309c36 20 rfl) rfl).trans ?_
  refine (r_ic (dk D309c36 21 rfl) ci3).trans ?_
  refine (r_iadd (dk D309c36 22 rfl)).trans ?_
  refine (r_scr (dk D309c36 23 rfl)).trans (ck3 fun g3 => ?_)
  exact r_cv (dk D309c36 24 rfl) ow309 c13_174 mf156 (Nat.le_of_ble_eq_true rfl) rfl rfl (Nat.le_of_ble_eq_true rfl) (Nat.le_of_ble_eq_true rfl) ob_1
theorem E309_1551 {d sl : Nat} {p : Nat → Nat} {I : Nat → Nat → Int32} {J : Nat → Nat → Int64} (i : Int32) (x : Int32) : ev (d + 1) 309 1551 [.ref 0, .ref 1, .ref 46, .int i] [.int x] (S sl p I J) = ck (ixb sl (i + 1)) (ck (ixb sl (i + 2)) (ck (ixb sl (i + 3)) (evK (d + 1) 309 1570 [.ref 0, .ref 1, .ref 46, .int i] [.int x] (den d 289 [.ref 46, .int (I 0 (Int32.toNatClampNeg (i + 1))), .int (I 0 (Int32.toNatClampNeg (i + 2))), .int (I 0 (Int32.toNatClampNeg (i + 3)))] (S sl p I J))))) := by
  refine (r_aln (dk D309c36 25 rfl) rfl).trans ?_
  refine (r_aln (dk D309c36 26 rfl) rfl).trans ?_
  refine (r_iln (dk D309c36 27 rfl) rfl).trans ?_
  refine (r_ic (dk D309c36 28 rfl) ci1).trans ?_
  refine (r_iadd (dk D309c36 29 rfl)).trans ?_
  refine (r_scr (dk D309c37 0 rfl)).trans (ck3 fun g1 => ?_)
  refine (r_aln (dk D309c37 1 rfl) rfl).trans ?_
  refine (r_iln (dk D309c37 2 rfl) rfl).trans ?_
  refine (r_ic (dk D309c37 3 rfl) ci2).trans ?_
  refine (r_iadd (dk D309c37 4 rfl)).trans ?_
  refine (r_scr (dk D309c37 5 rfl)).trans (ck3 fun g2 => ?_)
  refine (r_aln (dk D309c37 6 rfl) rfl).trans ?_
  refine (r_iln (dk D309c37 7 rfl) rfl).trans ?_
  refine (r_ic (dk D309c37 8 rfl) ci3).trans ?_
  refine (r_iadd (dk D309c37 9 rfl)).trans ?_
  refine (r_scr (dk D309c37 10 rfl)).trans (ck3 fun g3 => ?_)
  exact r_cv (dk D309c37 11 rfl) ow309 c13_177 mf289 (Nat.le_of_ble_eq_true rfl) rfl rfl (Nat.le_of_ble_eq_true rfl) (Nat.le_of_ble_eq_true rfl) ob_46
theorem E309_1570 {d sl : Nat} {p : Nat → Nat} {I : Nat → Nat → Int32} {J : Nat → Nat → Int64} (i : Int32) (z x : Int32) : ev d 309 1570 [.ref 0, .ref 1, .ref 46, .int i] [.int z, .int x] (S sl p I J) = (if x = z then ev d 309 1763 [.ref 0, .ref 1, .ref 46, .int i] [] (S sl p I J) else some (some (.int 0), (S sl p I J))) := by
  refine (r_eq (dk D309c37 12 rfl) rfl).trans (ite2 ?_ ?_)
  · exact rfl
  · refine (r_ic (dk D309c37 13 rfl) ci0).trans ?_
    exact r_rez (dk D309c37 14 rfl) rt309 (by decide)
theorem E309_1575 {d sl : Nat} {p : Nat → Nat} {I : Nat → Nat → Int32} {J : Nat → Nat → Int64} (i : Int32) : ev (d + 1) 309 1575 [.ref 0, .ref 1, .ref 46, .int i] [] (S sl p I J) = ck (ixb sl (i + 1)) (evK (d + 1) 309 1584 [.ref 0, .ref 1, .ref 46, .int i] [] (den d 157 [.ref 1, .int (I 0 (Int32.toNatClampNeg (i + 1)))] (S sl p I J))) := by
  refine (r_aln (dk D309c37 15 rfl) rfl).trans ?_
  refine (r_aln (dk D309c37 16 rfl) rfl).trans ?_
  refine (r_iln (dk D309c37 17 rfl) rfl).trans ?_
  refine (r_ic (dk D309c37 18 rfl) ci1).trans ?_
  refine (r_iadd (dk D309c37 19 rfl)).trans ?_
  refine (r_scr (dk D309c37 20 rfl)).trans (ck3 fun g1 => ?_)
  exact r_cv (dk D309c37 21 rfl) ow309 c13_178 mf157 (Nat.le_of_ble_eq_true rfl) rfl rfl (Nat.le_of_ble_eq_true rfl) (Nat.le_of_ble_eq_true rfl) ob_1
theorem E309_1584 {d sl : Nat} {p : Nat → Nat} {I : Nat → Nat → Int32} {J : Nat → Nat → Int64} (i : Int32) (x : Int32) : ev (d + 1) 309 1584 [.ref 0, .ref 1, .ref 46, .int i] [.int x] (S sl p I J) = ck (ixb sl (i + 1)) (evK (d + 1) 309 1593 [.ref 0, .ref 1, .ref 46, .int i] [.int x] (den d 299 [.ref 46, .int (I 0 (Int32.toNatClampNeg (i + 1)))] (S sl p I J))) := by
  refine (r_aln (dk D309c37 22 rfl) rfl).trans ?_
  refine (r_aln (dk D309c37 23 rfl) rfl).trans ?_
  refine (r_iln (dk D309c37 24 rfl) rfl).trans ?_
  refine (r_ic (dk D309c37 25 rfl) ci1).trans ?_
  refine (r_iadd (dk D309c37 26 rfl)).trans ?_
  refine (r_scr (dk D309c37 27 rfl)).trans (ck3 fun g1 => ?_)
  exact r_cv (dk D309c37 28 rfl) ow309 c13_181 mf299 (Nat.le_of_ble_eq_true rfl) rfl rfl (Nat.le_of_ble_eq_true rfl) (Nat.le_of_ble_eq_true rfl) ob_46
theorem E309_1593 {d sl : Nat} {p : Nat → Nat} {I : Nat → Nat → Int32} {J : Nat → Nat → Int64} (i : Int32) (z x : Int32) : ev d 309 1593 [.ref 0, .ref 1, .ref 46, .int i] [.int z, .int x] (S sl p I J) = (if x = z then ev d 309 1763 [.ref 0, .ref 1, .ref 46, .int i] [] (S sl p I J) else some (some (.int 0), (S sl p I J))) := by
  refine (r_eq (dk D309c37 29 rfl) rfl).trans (ite2 ?_ ?_)
  · exact rfl
  · refine (r_ic (dk D309c38 0 rfl) ci0).trans ?_
    exact r_rez (dk D309c38 1 rfl) rt309 (by decide)
theorem E309_1598 {d sl : Nat} {p : Nat → Nat} {I : Nat → Nat → Int32} {J : Nat → Nat → Int64} (i : Int32) : ev (d + 1) 309 1598 [.ref 0, .ref 1, .ref 46, .int i] [] (S sl p I J) = ck (ixb sl (i + 1)) (evK (d + 1) 309 1607 [.ref 0, .ref 1, .ref 46, .int i] [] (den d 158 [.ref 1, .int (I 0 (Int32.toNatClampNeg (i + 1)))] (S sl p I J))) := by
  refine (r_aln (dk D309c38 2 rfl) rfl).trans ?_
  refine (r_aln (dk D309c38 3 rfl) rfl).trans ?_
  refine (r_iln (dk D309c38 4 rfl) rfl).trans ?_
  refine (r_ic (dk D309c38 5 rfl) ci1).trans ?_
  refine (r_iadd (dk D309c38 6 rfl)).trans ?_
  refine (r_scr (dk D309c38 7 rfl)).trans (ck3 fun g1 => ?_)
  exact r_cv (dk D309c38 8 rfl) ow309 c13_182 mf158 (Nat.le_of_ble_eq_true rfl) rfl rfl (Nat.le_of_ble_eq_true rfl) (Nat.le_of_ble_eq_true rfl) ob_1
theorem E309_1607 {d sl : Nat} {p : Nat → Nat} {I : Nat → Nat → Int32} {J : Nat → Nat → Int64} (i : Int32) (x : Int32) : ev (d + 1) 309 1607 [.ref 0, .ref 1, .ref 46, .int i] [.int x] (S sl p I J) = ck (ixb sl (i + 1)) (evK (d + 1) 309 1616 [.ref 0, .ref 1, .ref 46, .int i] [.int x] (den d 300 [.ref 46, .int (I 0 (Int32.toNatClampNeg (i + 1)))] (S sl p I J))) := by
  refine (r_aln (dk D309c38 9 rfl) rfl).trans ?_
  refine (r_aln (dk D309c38 10 rfl) rfl).trans ?_
  refine (r_iln (dk D309c38 11 rfl) rfl).trans ?_
  refine (r_ic (dk D309c38 12 rfl) ci1).trans ?_
  refine (r_iadd (dk D309c38 13 rfl)).trans ?_
  refine (r_scr (dk D309c38 14 rfl)).trans (ck3 fun g1 => ?_)
  exact r_cv (dk D309c38 15 rfl) ow309 c13_185 mf300 (Nat.le_of_ble_eq_true rfl) rfl rfl (Nat.le_of_ble_eq_true rfl) (Nat.le_of_ble_eq_true rfl) ob_46
theorem E309_1616 {d sl : Nat} {p : Nat → Nat} {I : Nat → Nat → Int32} {J : Nat → Nat → Int64} (i : Int32) (z x : Int32) : ev d 309 1616 [.ref 0, .ref 1, .ref 46, .int i] [.int z, .int x] (S sl p I J) = (if x = z then ev d 309 1763 [.ref 0, .ref 1, .ref 46, .int i] [] (S sl p I J) else some (some (.int 0), (S sl p I J))) := by
  refine (r_eq (dk D309c38 16 rfl) rfl).trans (ite2 ?_ ?_)
  · exact rfl
  · refine (r_ic (dk D309c38 17 rfl) ci0).trans ?_
    exact r_rez (dk D309c38 18 rfl) rt309 (by decide)
theorem E309_1621 {d sl : Nat} {p : Nat → Nat} {I : Nat → Nat → Int32} {J : Nat → Nat → Int64} (i : Int32) : ev (d + 1) 309 1621 [.ref 0, .ref 1, .ref 46, .int i] [] (S sl p I J) = ck (ixb sl (i + 1)) (evK (d + 1) 309 1630 [.ref 0, .ref 1, .ref 46, .int i] [] (den d 159 [.ref 1, .int (I 0 (Int32.toNatClampNeg (i + 1)))] (S sl p I J))) := by
  refine (r_aln (dk D309c38 19 rfl) rfl).trans ?_
  refine (r_aln (dk D309c38 20 rfl) rfl).trans ?_
  refine (r_iln (dk D309c38 21 rfl) rfl).trans ?_
  refine (r_ic (dk D309c38 22 rfl) ci1).trans ?_
  refine (r_iadd (dk D309c38 23 rfl)).trans ?_
  refine (r_scr (dk D309c38 24 rfl)).trans (ck3 fun g1 => ?_)
  exact r_cv (dk D309c38 25 rfl) ow309 c13_186 mf159 (Nat.le_of_ble_eq_true rfl) rfl rfl (Nat.le_of_ble_eq_true rfl) (Nat.le_of_ble_eq_true rfl) ob_1
theorem E309_1630 {d sl : Nat} {p : Nat → Nat} {I : Nat → Nat → Int32} {J : Nat → Nat → Int64} (i : Int32) (x : Int32) : ev (d + 1) 309 1630 [.ref 0, .ref 1, .ref 46, .int i] [.int x] (S sl p I J) = ck (ixb sl (i + 1)) (evK (d + 1) 309 1639 [.ref 0, .ref 1, .ref 46, .int i] [.int x] (den d 302 [.ref 46, .int (I 0 (Int32.toNatClampNeg (i + 1)))] (S sl p I J))) := by
  refine (r_aln (dk D309c38 26 rfl) rfl).trans ?_
  refine (r_aln (dk D309c38 27 rfl) rfl).trans ?_
  refine (r_iln (dk D309c38 28 rfl) rfl).trans ?_
  refine (r_ic (dk D309c38 29 rfl) ci1).trans ?_
  refine (r_iadd (dk D309c39 0 rfl)).trans ?_
  refine (r_scr (dk D309c39 1 rfl)).trans (ck3 fun g1 => ?_)
  exact r_cv (dk D309c39 2 rfl) ow309 c13_189 mf302 (Nat.le_of_ble_eq_true rfl) rfl rfl (Nat.le_of_ble_eq_true rfl) (Nat.le_of_ble_eq_true rfl) ob_46
theorem E309_1639 {d sl : Nat} {p : Nat → Nat} {I : Nat → Nat → Int32} {J : Nat → Nat → Int64} (i : Int32) (z x : Int32) : ev d 309 1639 [.ref 0, .ref 1, .ref 46, .int i] [.int z, .int x] (S sl p I J) = (if x = z then ev d 309 1763 [.ref 0, .ref 1, .ref 46, .int i] [] (S sl p I J) else some (some (.int 0), (S sl p I J))) := by
  refine (r_eq (dk D309c39 3 rfl) rfl).trans (ite2 ?_ ?_)
  · exact rfl
  · refine (r_ic (dk D309c39 4 rfl) ci0).trans ?_
    exact r_rez (dk D309c39 5 rfl) rt309 (by decide)
theorem E309_1644 {d sl : Nat} {p : Nat → Nat} {I : Nat → Nat → Int32} {J : Nat → Nat → Int64} (i : Int32) : ev (d + 1) 309 1644 [.ref 0, .ref 1, .ref 46, .int i] [] (S sl p I J) = evK (d + 1) 309 1648 [.ref 0, .ref 1, .ref 46, .int i] [] (den d 160 [.ref 1] (S sl p I J)) := by
  refine (r_aln (dk D309c39 6 rfl) rfl).trans ?_
  exact r_cv (dk D309c39 7 rfl) ow309 c13_190 mf160 (Nat.le_of_ble_eq_true rfl) rfl rfl (Nat.le_of_ble_eq_true rfl) (Nat.le_of_ble_eq_true rfl) ob_1
theorem E309_1648 {d sl : Nat} {p : Nat → Nat} {I : Nat → Nat → Int32} {J : Nat → Nat → Int64} (i : Int32) (x : Int32) : ev (d + 1) 309 1648 [.ref 0, .ref 1, .ref 46, .int i] [.int x] (S sl p I J) = evK (d + 1) 309 1652 [.ref 0, .ref 1, .ref 46, .int i] [.int x] (den d 303 [.ref 46] (S sl p I J)) := by
  refine (r_aln (dk D309c39 8 rfl) rfl).trans ?_
  exact r_cv (dk D309c39 9 rfl) ow309 c13_193 mf303 (Nat.le_of_ble_eq_true rfl) rfl rfl (Nat.le_of_ble_eq_true rfl) (Nat.le_of_ble_eq_true rfl) ob_46
theorem E309_1652 {d sl : Nat} {p : Nat → Nat} {I : Nat → Nat → Int32} {J : Nat → Nat → Int64} (i : Int32) (z x : Int32) : ev d 309 1652 [.ref 0, .ref 1, .ref 46, .int i] [.int z, .int x] (S sl p I J) = (if x = z then ev d 309 1763 [.ref 0, .ref 1, .ref 46, .int i] [] (S sl p I J) else some (some (.int 0), (S sl p I J))) := by
  refine (r_eq (dk D309c39 10 rfl) rfl).trans (ite2 ?_ ?_)
  · exact rfl
  · refine (r_ic (dk D309c39 11 rfl) ci0).trans ?_
    exact r_rez (dk D309c39 12 rfl) rt309 (by decide)
theorem E309_1657 {d sl : Nat} {p : Nat → Nat} {I : Nat → Nat → Int32} {J : Nat → Nat → Int64} (i : Int32) : ev (d + 1) 309 1657 [.ref 0, .ref 1, .ref 46, .int i] [] (S sl p I J) = ck (ixb sl (i + 1)) (ck (ixb sl (i + 2)) (ck (ixb sl (i + 3)) (ck (ixb sl (i + 4)) (evK (d + 1) 309 1681 [.ref 0, .ref 1, .ref 46, .int i] [] (den d 161 [.ref 1, .int (I 0 (Int32.toNatClampNeg (i + 1))), .int (I 0 (Int32.toNatClampNeg (i + 2))), .int (I 0 (Int32.toNatClampNeg (i + 3))), .int (I 0 (Int32.toNatClampNeg (i + 4)))] (S sl p I J)))))) := by
  refine (r_aln (dk D309c39 13 rfl) rfl).trans ?_
  refine (r_aln (dk D309c39 14 rfl) rfl).trans ?_
  refine (r_iln (dk D309c39 15 rfl) rfl).trans ?_
  refine (r_ic (dk D309c39 16 rfl) ci1).trans ?_
  refine (r_iadd (dk D309c39 17 rfl)).trans ?_
  refine (r_scr (dk D309c39 18 rfl)).trans (ck3 fun g1 => ?_)
  refine (r_aln (dk D309c39 19 rfl) rfl).trans ?_
  refine (r_iln (dk D309c39 20 rfl) rfl).trans ?_
  refine (r_ic (dk D309c39 21 rfl) ci2).trans ?_
  refine (r_iadd (dk D309c39 22 rfl)).trans ?_
  refine (r_scr (dk D309c39 23 rfl)).trans (ck3 fun g2 => ?_)
  refine (r_aln (dk D309c39 24 rfl) rfl).trans ?_
  refine (r_iln (dk D309c39 25 rfl) rfl).trans ?_
  refine (r_ic (dk D309c39 26 rfl) ci3).trans ?_
  refine (r_iadd (dk D309c39 27 rfl)).trans ?_
  refine (r_scr (dk D309c39 28 rfl)).trans (ck3 fun g3 => ?_)
  refine (r_aln (dk D309c39 29 rfl) rfl).trans ?_
  refine (r_iln (dk D309c40 0 rfl) rfl).trans ?_
  refine (r_ic (dk D309c40 1 rfl) ci4).trans ?_
  refine (r_iadd (dk D309c40 2 rfl)).trans ?_
  refine (r_scr (dk D309c40 3 rfl)).trans (ck3 fun g4 => ?_)
  exact r_cv (dk D309c40 4 rfl) ow309 c13_194 mf161 (Nat.le_of_ble_eq_true rfl) rfl rfl (Nat.le_of_ble_eq_true rfl) (Nat.le_of_ble_eq_true rfl) ob_1
theorem E309_1681 {d sl : Nat} {p : Nat → Nat} {I : Nat → Nat → Int32} {J : Nat → Nat → Int64} (i : Int32) (x : Int32) : ev (d + 1) 309 1681 [.ref 0, .ref 1, .ref 46, .int i] [.int x] (S sl p I J) = ck (ixb sl (i + 1)) (ck (ixb sl (i + 2)) (ck (ixb sl (i + 3)) (ck (ixb sl (i + 4)) (evK (d + 1) 309 1705 [.ref 0, .ref 1, .ref 46, .int i] [.int x] (den d 306 [.ref 46, .int (I 0 (Int32.toNatClampNeg (i + 1))), .int (I 0 (Int32.toNatClampNeg (i + 2))), .int (I 0 (Int32.toNatClampNeg (i + 3))), .int (I 0 (Int32.toNatClampNeg (i + 4)))] (S sl p I J)))))) := by
  refine (r_aln (dk D309c40 5 rfl) rfl).trans ?_
  refine (r_aln (dk D309c40 6 rfl) rfl).trans ?_
  refine (r_iln (dk D309c40 7 rfl) rfl).trans ?_
  refine (r_ic (dk D309c40 8 rfl) ci1).trans ?_
  refine (r_iadd (dk D309c40 9 rfl)).trans ?_
  refine (r_scr (dk D309c40 10 rfl)).trans (ck3 fun g1 => ?_)
  refine (r_aln (dk D309c40 11 rfl) rfl).trans ?_
  refine (r_iln (dk D309c40 12 rfl) rfl).trans ?_
  refine (r_ic (dk D309c40 13 rfl) ci2).trans ?_
  refine (r_iadd (dk D309c40 14 rfl)).trans ?_
  refine (r_scr (dk D309c40 15 rfl)).trans (ck3 fun g2 => ?_)
  refine (r_aln (dk D309c40 16 rfl) rfl).trans ?_
  refine (r_iln (dk D309c40 17 rfl) rfl).trans ?_
  refine (r_ic (dk D309c40 18 rfl) ci3).trans ?_
  refine (r_iadd (dk D309c40 19 rfl)).trans ?_
  refine (r_scr (dk D309c40 20 rfl)).trans (ck3 fun g3 => ?_)
  refine (r_aln (dk D309c40 21 rfl) rfl).trans ?_
  refine (r_iln (dk D309c40 22 rfl) rfl).trans ?_
  refine (r_ic (dk D309c40 23 rfl) ci4).trans ?_
  refine (r_iadd (dk D309c40 24 rfl)).trans ?_
  refine (r_scr (dk D309c40 25 rfl)).trans (ck3 fun g4 => ?_)
  exact r_cv (dk D309c40 26 rfl) ow309 c13_197 mf306 (Nat.le_of_ble_eq_true rfl) rfl rfl (Nat.le_of_ble_eq_true rfl) (Nat.le_of_ble_eq_true rfl) ob_46
theorem E309_1705 {d sl : Nat} {p : Nat → Nat} {I : Nat → Nat → Int32} {J : Nat → Nat → Int64} (i : Int32) (z x : Int32) : ev d 309 1705 [.ref 0, .ref 1, .ref 46, .int i] [.int z, .int x] (S sl p I J) = (if x = z then ev d 309 1763 [.ref 0, .ref 1, .ref 46, .int i] [] (S sl p I J) else some (some (.int 0), (S sl p I J))) := by
  refine (r_eq (dk D309c40 27 rfl) rfl).trans (ite2 ?_ ?_)
  · exact rfl
  · refine (r_ic (dk D309c40 28 rfl) ci0).trans ?_
    exact r_rez (dk D309c40 29 rfl) rt309 (by decide)
theorem E309_1710 {d sl : Nat} {p : Nat → Nat} {I : Nat → Nat → Int32} {J : Nat → Nat → Int64} (i : Int32) : ev (d + 1) 309 1710 [.ref 0, .ref 1, .ref 46, .int i] [] (S sl p I J) = ck (ixb sl (i + 1)) (ck (ixb sl (i + 2)) (ck (ixb sl (i + 3)) (ck (ixb sl (i + 4)) (evK (d + 1) 309 1734 [.ref 0, .ref 1, .ref 46, .int i] [] (den d 162 [.ref 1, .int (I 0 (Int32.toNatClampNeg (i + 1))), .int (I 0 (Int32.toNatClampNeg (i + 2))), .int (I 0 (Int32.toNatClampNeg (i + 3))), .int (I 0 (Int32.toNatClampNeg (i + 4)))] (S sl p I J)))))) := by
  refine (r_aln (dk D309c41 0 rfl) rfl).trans ?_
  refine (r_aln (dk D309c41 1 rfl) rfl).trans ?_
  refine (r_iln (dk D309c41 2 rfl) rfl).trans ?_
  refine (r_ic (dk D309c41 3 rfl) ci1).trans ?_
  refine (r_iadd (dk D309c41 4 rfl)).trans ?_
  refine (r_scr (dk D309c41 5 rfl)).trans (ck3 fun g1 => ?_)
  refine (r_aln (dk D309c41 6 rfl) rfl).trans ?_
  refine (r_iln (dk D309c41 7 rfl) rfl).trans ?_
  refine (r_ic (dk D309c41 8 rfl) ci2).trans ?_
  refine (r_iadd (dk D309c41 9 rfl)).trans ?_
  refine (r_scr (dk D309c41 10 rfl)).trans (ck3 fun g2 => ?_)
  refine (r_aln (dk D309c41 11 rfl) rfl).trans ?_
  refine (r_iln (dk D309c41 12 rfl) rfl).trans ?_
  refine (r_ic (dk D309c41 13 rfl) ci3).trans ?_
  refine (r_iadd (dk D309c41 14 rfl)).trans ?_
  refine (r_scr (dk D309c41 15 rfl)).trans (ck3 fun g3 => ?_)
  refine (r_aln (dk D309c41 16 rfl) rfl).trans ?_
  refine (r_iln (dk D309c41 17 rfl) rfl).trans ?_
  refine (r_ic (dk D309c41 18 rfl) ci4).trans ?_
  refine (r_iadd (dk D309c41 19 rfl)).trans ?_
  refine (r_scr (dk D309c41 20 rfl)).trans (ck3 fun g4 => ?_)
  exact r_cv (dk D309c41 21 rfl) ow309 c13_198 mf162 (Nat.le_of_ble_eq_true rfl) rfl rfl (Nat.le_of_ble_eq_true rfl) (Nat.le_of_ble_eq_true rfl) ob_1
theorem E309_1734 {d sl : Nat} {p : Nat → Nat} {I : Nat → Nat → Int32} {J : Nat → Nat → Int64} (i : Int32) (x : Int32) : ev (d + 1) 309 1734 [.ref 0, .ref 1, .ref 46, .int i] [.int x] (S sl p I J) = ck (ixb sl (i + 1)) (ck (ixb sl (i + 2)) (ck (ixb sl (i + 3)) (ck (ixb sl (i + 4)) (evK (d + 1) 309 1758 [.ref 0, .ref 1, .ref 46, .int i] [.int x] (den d 307 [.ref 46, .int (I 0 (Int32.toNatClampNeg (i + 1))), .int (I 0 (Int32.toNatClampNeg (i + 2))), .int (I 0 (Int32.toNatClampNeg (i + 3))), .int (I 0 (Int32.toNatClampNeg (i + 4)))] (S sl p I J)))))) := by
  refine (r_aln (dk D309c41 22 rfl) rfl).trans ?_
  refine (r_aln (dk D309c41 23 rfl) rfl).trans ?_
  refine (r_iln (dk D309c41 24 rfl) rfl).trans ?_
  refine (r_ic (dk D309c41 25 rfl) ci1).trans ?_
  refine (r_iadd (dk D309c41 26 rfl)).trans ?_
  refine (r_scr (dk D309c41 27 rfl)).trans (ck3 fun g1 => ?_)
  refine (r_aln (dk D309c41 28 rfl) rfl).trans ?_
  refine (r_iln (dk D309c41 29 rfl) rfl).trans ?_
  refine (r_ic (dk D309c42 0 rfl) ci2).trans ?_
  refine (r_iadd (dk D309c42 1 rfl)).trans ?_
  refine (r_scr (dk D309c42 2 rfl)).trans (ck3 fun g2 => ?_)
  refine (r_aln (dk D309c42 3 rfl) rfl).trans ?_
  refine (r_iln (dk D309c42 4 rfl) rfl).trans ?_
  refine (r_ic (dk D309c42 5 rfl) ci3).trans ?_
  refine (r_iadd (dk D309c42 6 rfl)).trans ?_
  refine (r_scr (dk D309c42 7 rfl)).trans (ck3 fun g3 => ?_)
  refine (r_aln (dk D309c42 8 rfl) rfl).trans ?_
  refine (r_iln (dk D309c42 9 rfl) rfl).trans ?_
  refine (r_ic (dk D309c42 10 rfl) ci4).trans ?_
  refine (r_iadd (dk D309c42 11 rfl)).trans ?_
  refine (r_scr (dk D309c42 12 rfl)).trans (ck3 fun g4 => ?_)
  exact r_cv (dk D309c42 13 rfl) ow309 c13_201 mf307 (Nat.le_of_ble_eq_true rfl) rfl rfl (Nat.le_of_ble_eq_true rfl) (Nat.le_of_ble_eq_true rfl) ob_46
theorem E309_1758 {d sl : Nat} {p : Nat → Nat} {I : Nat → Nat → Int32} {J : Nat → Nat → Int64} (i : Int32) (z x : Int32) : ev d 309 1758 [.ref 0, .ref 1, .ref 46, .int i] [.int z, .int x] (S sl p I J) = (if x = z then ev d 309 1763 [.ref 0, .ref 1, .ref 46, .int i] [] (S sl p I J) else some (some (.int 0), (S sl p I J))) := by
  refine (r_eq (dk D309c42 14 rfl) rfl).trans (ite2 ?_ ?_)
  · exact rfl
  · refine (r_ic (dk D309c42 15 rfl) ci0).trans ?_
    exact r_rez (dk D309c42 16 rfl) rt309 (by decide)
theorem E309_1763 {d sl : Nat} {p : Nat → Nat} {I : Nat → Nat → Int32} {J : Nat → Nat → Int64} (i : Int32) : ev d 309 1763 [.ref 0, .ref 1, .ref 46, .int i] [] (S sl p I J) = ev d 309 18 [.ref 0, .ref 1, .ref 46, .int (i + 7)] [] (S sl p I J) := by
  refine (r_inc (L' := [.ref 0, .ref 1, .ref 46, .int (i + 7)]) (dk D309c42 17 rfl) rfl rfl ci7 (Nat.le_of_ble_eq_true rfl) rfl).trans ?_
  refine (r_goto (L' := [.ref 0, .ref 1, .ref 46, .int (i + 7)]) (dk D309c42 18 rfl) rfl nd309_18 rfl).trans ?_
  exact rfl
theorem sw_0 {d sl : Nat} {L : List Value} {σ : Mm} : ev d 309 33 L [.int 0] σ = ev d 309 228 L [] σ := r_sw (dk D309c0 21 rfl) rfl
theorem sw_1 {d sl : Nat} {L : List Value} {σ : Mm} : ev d 309 33 L [.int 1] σ = ev d 309 241 L [] σ := r_sw (dk D309c0 21 rfl) rfl
theorem sw_2 {d sl : Nat} {L : List Value} {σ : Mm} : ev d 309 33 L [.int 2] σ = ev d 309 284 L [] σ := r_sw (dk D309c0 21 rfl) rfl
theorem sw_3 {d sl : Nat} {L : List Value} {σ : Mm} : ev d 309 33 L [.int 3] σ = ev d 309 337 L [] σ := r_sw (dk D309c0 21 rfl) rfl
theorem sw_4 {d sl : Nat} {L : List Value} {σ : Mm} : ev d 309 33 L [.int 4] σ = ev d 309 360 L [] σ := r_sw (dk D309c0 21 rfl) rfl
theorem sw_5 {d sl : Nat} {L : List Value} {σ : Mm} : ev d 309 33 L [.int 5] σ = ev d 309 393 L [] σ := r_sw (dk D309c0 21 rfl) rfl
theorem sw_6 {d sl : Nat} {L : List Value} {σ : Mm} : ev d 309 33 L [.int 6] σ = ev d 309 416 L [] σ := r_sw (dk D309c0 21 rfl) rfl
theorem sw_7 {d sl : Nat} {L : List Value} {σ : Mm} : ev d 309 33 L [.int 7] σ = ev d 309 469 L [] σ := r_sw (dk D309c0 21 rfl) rfl
theorem sw_8 {d sl : Nat} {L : List Value} {σ : Mm} : ev d 309 33 L [.int 8] σ = ev d 309 492 L [] σ := r_sw (dk D309c0 21 rfl) rfl
theorem sw_9 {d sl : Nat} {L : List Value} {σ : Mm} : ev d 309 33 L [.int 9] σ = ev d 309 525 L [] σ := r_sw (dk D309c0 21 rfl) rfl
theorem sw_10 {d sl : Nat} {L : List Value} {σ : Mm} : ev d 309 33 L [.int 10] σ = ev d 309 558 L [] σ := r_sw (dk D309c0 21 rfl) rfl
theorem sw_11 {d sl : Nat} {L : List Value} {σ : Mm} : ev d 309 33 L [.int 11] σ = ev d 309 591 L [] σ := r_sw (dk D309c0 21 rfl) rfl
theorem sw_12 {d sl : Nat} {L : List Value} {σ : Mm} : ev d 309 33 L [.int 12] σ = ev d 309 624 L [] σ := r_sw (dk D309c0 21 rfl) rfl
theorem sw_13 {d sl : Nat} {L : List Value} {σ : Mm} : ev d 309 33 L [.int 13] σ = ev d 309 658 L [] σ := r_sw (dk D309c0 21 rfl) rfl
theorem sw_14 {d sl : Nat} {L : List Value} {σ : Mm} : ev d 309 33 L [.int 14] σ = ev d 309 691 L [] σ := r_sw (dk D309c0 21 rfl) rfl
theorem sw_15 {d sl : Nat} {L : List Value} {σ : Mm} : ev d 309 33 L [.int 15] σ = ev d 309 714 L [] σ := r_sw (dk D309c0 21 rfl) rfl
theorem sw_16 {d sl : Nat} {L : List Value} {σ : Mm} : ev d 309 33 L [.int 16] σ = ev d 309 747 L [] σ := r_sw (dk D309c0 21 rfl) rfl
theorem sw_17 {d sl : Nat} {L : List Value} {σ : Mm} : ev d 309 33 L [.int 17] σ = ev d 309 780 L [] σ := r_sw (dk D309c0 21 rfl) rfl
theorem sw_18 {d sl : Nat} {L : List Value} {σ : Mm} : ev d 309 33 L [.int 18] σ = ev d 309 823 L [] σ := r_sw (dk D309c0 21 rfl) rfl
theorem sw_19 {d sl : Nat} {L : List Value} {σ : Mm} : ev d 309 33 L [.int 19] σ = ev d 309 836 L [] σ := r_sw (dk D309c0 21 rfl) rfl
theorem sw_20 {d sl : Nat} {L : List Value} {σ : Mm} : ev d 309 33 L [.int 20] σ = ev d 309 859 L [] σ := r_sw (dk D309c0 21 rfl) rfl
theorem sw_21 {d sl : Nat} {L : List Value} {σ : Mm} : ev d 309 33 L [.int 21] σ = ev d 309 882 L [] σ := r_sw (dk D309c0 21 rfl) rfl
theorem sw_22 {d sl : Nat} {L : List Value} {σ : Mm} : ev d 309 33 L [.int 22] σ = ev d 309 915 L [] σ := r_sw (dk D309c0 21 rfl) rfl
theorem sw_23 {d sl : Nat} {L : List Value} {σ : Mm} : ev d 309 33 L [.int 23] σ = ev d 309 938 L [] σ := r_sw (dk D309c0 21 rfl) rfl
theorem sw_24 {d sl : Nat} {L : List Value} {σ : Mm} : ev d 309 33 L [.int 24] σ = ev d 309 961 L [] σ := r_sw (dk D309c0 21 rfl) rfl
theorem sw_25 {d sl : Nat} {L : List Value} {σ : Mm} : ev d 309 33 L [.int 25] σ = ev d 309 994 L [] σ := r_sw (dk D309c0 21 rfl) rfl
theorem sw_26 {d sl : Nat} {L : List Value} {σ : Mm} : ev d 309 33 L [.int 26] σ = ev d 309 1027 L [] σ := r_sw (dk D309c0 21 rfl) rfl
theorem sw_27 {d sl : Nat} {L : List Value} {σ : Mm} : ev d 309 33 L [.int 27] σ = ev d 309 1060 L [] σ := r_sw (dk D309c0 21 rfl) rfl
theorem sw_28 {d sl : Nat} {L : List Value} {σ : Mm} : ev d 309 33 L [.int 28] σ = ev d 309 1103 L [] σ := r_sw (dk D309c0 21 rfl) rfl
theorem sw_29 {d sl : Nat} {L : List Value} {σ : Mm} : ev d 309 33 L [.int 29] σ = ev d 309 1146 L [] σ := r_sw (dk D309c0 21 rfl) rfl
theorem sw_30 {d sl : Nat} {L : List Value} {σ : Mm} : ev d 309 33 L [.int 30] σ = ev d 309 1179 L [] σ := r_sw (dk D309c0 21 rfl) rfl
theorem sw_31 {d sl : Nat} {L : List Value} {σ : Mm} : ev d 309 33 L [.int 31] σ = ev d 309 1202 L [] σ := r_sw (dk D309c0 21 rfl) rfl
theorem sw_32 {d sl : Nat} {L : List Value} {σ : Mm} : ev d 309 33 L [.int 32] σ = ev d 309 1251 L [] σ := r_sw (dk D309c0 21 rfl) rfl
theorem sw_33 {d sl : Nat} {L : List Value} {σ : Mm} : ev d 309 33 L [.int 33] σ = ev d 309 1274 L [] σ := r_sw (dk D309c0 21 rfl) rfl
theorem sw_34 {d sl : Nat} {L : List Value} {σ : Mm} : ev d 309 33 L [.int 34] σ = ev d 309 1317 L [] σ := r_sw (dk D309c0 21 rfl) rfl
theorem sw_35 {d sl : Nat} {L : List Value} {σ : Mm} : ev d 309 33 L [.int 35] σ = ev d 309 1350 L [] σ := r_sw (dk D309c0 21 rfl) rfl
theorem sw_36 {d sl : Nat} {L : List Value} {σ : Mm} : ev d 309 33 L [.int 36] σ = ev d 309 1393 L [] σ := r_sw (dk D309c0 21 rfl) rfl
theorem sw_37 {d sl : Nat} {L : List Value} {σ : Mm} : ev d 309 33 L [.int 37] σ = ev d 309 1456 L [] σ := r_sw (dk D309c0 21 rfl) rfl
theorem sw_38 {d sl : Nat} {L : List Value} {σ : Mm} : ev d 309 33 L [.int 38] σ = ev d 309 1532 L [] σ := r_sw (dk D309c0 21 rfl) rfl
theorem sw_39 {d sl : Nat} {L : List Value} {σ : Mm} : ev d 309 33 L [.int 39] σ = ev d 309 1575 L [] σ := r_sw (dk D309c0 21 rfl) rfl
theorem sw_40 {d sl : Nat} {L : List Value} {σ : Mm} : ev d 309 33 L [.int 40] σ = ev d 309 1598 L [] σ := r_sw (dk D309c0 21 rfl) rfl
theorem sw_41 {d sl : Nat} {L : List Value} {σ : Mm} : ev d 309 33 L [.int 41] σ = ev d 309 1621 L [] σ := r_sw (dk D309c0 21 rfl) rfl
theorem sw_42 {d sl : Nat} {L : List Value} {σ : Mm} : ev d 309 33 L [.int 42] σ = ev d 309 1644 L [] σ := r_sw (dk D309c0 21 rfl) rfl
theorem sw_43 {d sl : Nat} {L : List Value} {σ : Mm} : ev d 309 33 L [.int 43] σ = ev d 309 1657 L [] σ := r_sw (dk D309c0 21 rfl) rfl
theorem sw_44 {d sl : Nat} {L : List Value} {σ : Mm} : ev d 309 33 L [.int 44] σ = ev d 309 1710 L [] σ := r_sw (dk D309c0 21 rfl) rfl
theorem sw_d {d : Nat} {L : List Value} {σ : Mm} {a : Int32} (h : a.toInt < 0 ∨ 44 < a.toInt) : ev d 309 33 L [.int a] σ = ev d 309 1763 L [] σ := r_swd (dk D309c0 21 rfl) h rfl

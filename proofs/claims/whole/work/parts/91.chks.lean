theorem bc_k1 : bc_ckM 1 = true := by decide +kernel
theorem bc_k2 : bc_ckM 2 = true := by decide +kernel
theorem bc_k3 : bc_ckM 3 = true := by decide +kernel
theorem bc_k4 : bc_ckM 4 = true := by decide +kernel
theorem bc_k5 : bc_ckM 5 = true := by decide +kernel
theorem bc_k6 : bc_ckM 6 = true := by decide +kernel
theorem bc_k7 : bc_ckM 7 = true := by decide +kernel
theorem bc_k8 : bc_ckM 8 = true := by decide +kernel
theorem bc_k9 : bc_ckM 9 = true := by decide +kernel
theorem bc_k10 : bc_ckM 10 = true := by decide +kernel
theorem bc_k11 : bc_ckM 11 = true := by decide +kernel
theorem bc_k12 : bc_ckM 12 = true := by decide +kernel
theorem bc_k13 : bc_ckM 13 = true := by decide +kernel
theorem bc_k14 : bc_ckM 14 = true := by decide +kernel
theorem bc_k15 : bc_ckM 15 = true := by decide +kernel
theorem bc_k16 : bc_ckM 16 = true := by decide +kernel
theorem bc_k17 : bc_ckM 17 = true := by decide +kernel
theorem bc_k18 : bc_ckM 18 = true := by decide +kernel
theorem bc_k19 : bc_ckM 19 = true := by decide +kernel
theorem bc_k20 : bc_ckM 20 = true := by decide +kernel
theorem bc_k21 : bc_ckM 21 = true := by decide +kernel
theorem bc_k22 : bc_ckM 22 = true := by decide +kernel
theorem bc_k23 : bc_ckM 23 = true := by decide +kernel
theorem bc_k24 : bc_ckM 24 = true := by decide +kernel
theorem bc_k25 : bc_ckM 25 = true := by decide +kernel
theorem bc_k26 : bc_ckM 26 = true := by decide +kernel
theorem bc_k27 : bc_ckM 27 = true := by decide +kernel
theorem bc_k28 : bc_ckM 28 = true := by decide +kernel
theorem bc_k29 : bc_ckM 29 = true := by decide +kernel
theorem bc_k30 : bc_ckM 30 = true := by decide +kernel
theorem bc_k31 : bc_ckM 31 = true := by decide +kernel
theorem bc_k32 : bc_ckM 32 = true := by decide +kernel
theorem bc_k33 : bc_ckM 33 = true := by decide +kernel
theorem bc_k34 : bc_ckM 34 = true := by decide +kernel
theorem bc_k35 : bc_ckM 35 = true := by decide +kernel
theorem bc_k36 : bc_ckM 36 = true := by decide +kernel
theorem bc_k37 : bc_ckM 37 = true := by decide +kernel
theorem bc_k38 : bc_ckM 38 = true := by decide +kernel
theorem bc_k39 : bc_ckM 39 = true := by decide +kernel
theorem bc_k40 : bc_ckM 40 = true := by decide +kernel
theorem bc_k41 : bc_ckM 41 = true := by decide +kernel
theorem bc_k42 : bc_ckM 42 = true := by decide +kernel
theorem bc_k43 : bc_ckM 43 = true := by decide +kernel
theorem bc_k44 : bc_ckM 44 = true := by decide +kernel
theorem bc_k45 : bc_ckM 45 = true := by decide +kernel
theorem bc_k46 : bc_ckM 46 = true := by decide +kernel
theorem bc_k47 : bc_ckM 47 = true := by decide +kernel
theorem bc_k48 : bc_ckM 48 = true := by decide +kernel
theorem bc_k49 : bc_ckM 49 = true := by decide +kernel
theorem bc_k50 : bc_ckM 50 = true := by decide +kernel
theorem bc_k51 : bc_ckM 51 = true := by decide +kernel
theorem bc_k52 : bc_ckM 52 = true := by decide +kernel
theorem bc_k53 : bc_ckM 53 = true := by decide +kernel
theorem bc_k54 : bc_ckM 54 = true := by decide +kernel
theorem bc_k55 : bc_ckM 55 = true := by decide +kernel
theorem bc_k56 : bc_ckM 56 = true := by decide +kernel
theorem bc_k57 : bc_ckM 57 = true := by decide +kernel
theorem bc_k58 : bc_ckM 58 = true := by decide +kernel
theorem bc_k59 : bc_ckM 59 = true := by decide +kernel
theorem bc_k60 : bc_ckM 60 = true := by decide +kernel
theorem bc_k61 : bc_ckM 61 = true := by decide +kernel
theorem bc_k62 : bc_ckM 62 = true := by decide +kernel
theorem bc_k63 : bc_ckM 63 = true := by decide +kernel
theorem bc_k64 : bc_ckM 64 = true := by decide +kernel
theorem bc_k65 : bc_ckM 65 = true := by decide +kernel
theorem bc_k66 : bc_ckM 66 = true := by decide +kernel
theorem bc_k67 : bc_ckM 67 = true := by decide +kernel
theorem bc_k68 : bc_ckM 68 = true := by decide +kernel
theorem bc_k69 : bc_ckM 69 = true := by decide +kernel
theorem bc_k70 : bc_ckM 70 = true := by decide +kernel
theorem bc_k71 : bc_ckM 71 = true := by decide +kernel
theorem bc_k72 : bc_ckM 72 = true := by decide +kernel
theorem bc_k73 : bc_ckM 73 = true := by decide +kernel
theorem bc_k74 : bc_ckM 74 = true := by decide +kernel
theorem bc_k75 : bc_ckM 75 = true := by decide +kernel
theorem bc_k76 : bc_ckM 76 = true := by decide +kernel
theorem bc_k77 : bc_ckM 77 = true := by decide +kernel
theorem bc_k78 : bc_ckM 78 = true := by decide +kernel
theorem bc_k79 : bc_ckM 79 = true := by decide +kernel
theorem bc_k80 : bc_ckM 80 = true := by decide +kernel
theorem bc_k81 : bc_ckM 81 = true := by decide +kernel
theorem bc_k82 : bc_ckM 82 = true := by decide +kernel
theorem bc_k83 : bc_ckM 83 = true := by decide +kernel
theorem bc_k84 : bc_ckM 84 = true := by decide +kernel
theorem bc_k85 : bc_ckM 85 = true := by decide +kernel
theorem bc_k86 : bc_ckM 86 = true := by decide +kernel
theorem bc_k87 : bc_ckM 87 = true := by decide +kernel
theorem bc_k88 : bc_ckM 88 = true := by decide +kernel
theorem bc_k89 : bc_ckM 89 = true := by decide +kernel
theorem bc_k90 : bc_ckM 90 = true := by decide +kernel
theorem bc_k91 : bc_ckM 91 = true := by decide +kernel
theorem bc_k92 : bc_ckM 92 = true := by decide +kernel
theorem bc_k93 : bc_ckM 93 = true := by decide +kernel
theorem bc_k94 : bc_ckM 94 = true := by decide +kernel
theorem bc_k95 : bc_ckM 95 = true := by decide +kernel
theorem bc_k96 : bc_ckM 96 = true := by decide +kernel
theorem bc_k97 : bc_ckM 97 = true := by decide +kernel
theorem bc_k98 : bc_ckM 98 = true := by decide +kernel
theorem bc_k99 : bc_ckM 99 = true := by decide +kernel
theorem bc_k100 : bc_ckM 100 = true := by decide +kernel
theorem bc_k101 : bc_ckM 101 = true := by decide +kernel
theorem bc_k102 : bc_ckM 102 = true := by decide +kernel
theorem bc_k103 : bc_ckM 103 = true := by decide +kernel
theorem bc_k104 : bc_ckM 104 = true := by decide +kernel
theorem bc_k105 : bc_ckM 105 = true := by decide +kernel
theorem bc_k106 : bc_ckM 106 = true := by decide +kernel
theorem bc_k107 : bc_ckM 107 = true := by decide +kernel
theorem bc_k108 : bc_ckM 108 = true := by decide +kernel
theorem bc_k109 : bc_ckM 109 = true := by decide +kernel
theorem bc_k110 : bc_ckM 110 = true := by decide +kernel
theorem bc_k111 : bc_ckM 111 = true := by decide +kernel
theorem bc_k112 : bc_ckM 112 = true := by decide +kernel
theorem bc_k113 : bc_ckM 113 = true := by decide +kernel
theorem bc_k114 : bc_ckM 114 = true := by decide +kernel
theorem bc_k115 : bc_ckM 115 = true := by decide +kernel
theorem bc_k116 : bc_ckM 116 = true := by decide +kernel
theorem bc_k117 : bc_ckM 117 = true := by decide +kernel
theorem bc_k118 : bc_ckM 118 = true := by decide +kernel
theorem bc_k119 : bc_ckM 119 = true := by decide +kernel
theorem bc_k120 : bc_ckM 120 = true := by decide +kernel
theorem bc_k121 : bc_ckM 121 = true := by decide +kernel
theorem bc_k122 : bc_ckM 122 = true := by decide +kernel
theorem bc_k123 : bc_ckM 123 = true := by decide +kernel
theorem bc_k124 : bc_ckM 124 = true := by decide +kernel
theorem bc_k125 : bc_ckM 125 = true := by decide +kernel
theorem bc_k126 : bc_ckM 126 = true := by decide +kernel
theorem bc_k127 : bc_ckM 127 = true := by decide +kernel
theorem bc_k128 : bc_ckM 128 = true := by decide +kernel
theorem bc_k129 : bc_ckM 129 = true := by decide +kernel
theorem bc_k130 : bc_ckM 130 = true := by decide +kernel
theorem bc_k131 : bc_ckM 131 = true := by decide +kernel
theorem bc_k132 : bc_ckM 132 = true := by decide +kernel
theorem bc_k133 : bc_ckM 133 = true := by decide +kernel
theorem bc_k134 : bc_ckM 134 = true := by decide +kernel
theorem bc_k135 : bc_ckM 135 = true := by decide +kernel
theorem bc_k136 : bc_ckM 136 = true := by decide +kernel
theorem bc_k137 : bc_ckM 137 = true := by decide +kernel
theorem bc_k138 : bc_ckM 138 = true := by decide +kernel
theorem bc_k139 : bc_ckM 139 = true := by decide +kernel
theorem bc_k140 : bc_ckM 140 = true := by decide +kernel
theorem bc_k141 : bc_ckM 141 = true := by decide +kernel
theorem bc_k142 : bc_ckM 142 = true := by decide +kernel
theorem bc_k143 : bc_ckM 143 = true := by decide +kernel
theorem bc_k144 : bc_ckM 144 = true := by decide +kernel
theorem bc_k145 : bc_ckM 145 = true := by decide +kernel
theorem bc_k146 : bc_ckM 146 = true := by decide +kernel
theorem bc_k147 : bc_ckM 147 = true := by decide +kernel
theorem bc_k148 : bc_ckM 148 = true := by decide +kernel
theorem bc_k149 : bc_ckM 149 = true := by decide +kernel
theorem bc_k150 : bc_ckM 150 = true := by decide +kernel
theorem bc_k151 : bc_ckM 151 = true := by decide +kernel
theorem bc_k152 : bc_ckM 152 = true := by decide +kernel
theorem bc_k153 : bc_ckM 153 = true := by decide +kernel
theorem bc_k154 : bc_ckM 154 = true := by decide +kernel
theorem bc_k155 : bc_ckM 155 = true := by decide +kernel
theorem bc_k156 : bc_ckM 156 = true := by decide +kernel
theorem bc_k157 : bc_ckM 157 = true := by decide +kernel
theorem bc_k158 : bc_ckM 158 = true := by decide +kernel
theorem bc_k159 : bc_ckM 159 = true := by decide +kernel
theorem bc_k160 : bc_ckM 160 = true := by decide +kernel
theorem bc_k161 : bc_ckM 161 = true := by decide +kernel
theorem bc_k162 : bc_ckM 162 = true := by decide +kernel
theorem bc_k163 : bc_ckM 163 = true := by decide +kernel
theorem bc_k164 : bc_ckM 164 = true := by decide +kernel
theorem bc_k165 : bc_ckM 165 = true := by decide +kernel
theorem bc_k166 : bc_ckM 166 = true := by decide +kernel
theorem bc_k167 : bc_ckM 167 = true := by decide +kernel
theorem bc_k168 : bc_ckM 168 = true := by decide +kernel
theorem bc_k169 : bc_ckM 169 = true := by decide +kernel
theorem bc_k170 : bc_ckM 170 = true := by decide +kernel
theorem bc_k171 : bc_ckM 171 = true := by decide +kernel
theorem bc_k172 : bc_ckM 172 = true := by decide +kernel
theorem bc_k173 : bc_ckM 173 = true := by decide +kernel
theorem bc_k174 : bc_ckM 174 = true := by decide +kernel
theorem bc_k175 : bc_ckM 175 = true := by decide +kernel
theorem bc_k176 : bc_ckM 176 = true := by decide +kernel
theorem bc_k177 : bc_ckM 177 = true := by decide +kernel
theorem bc_k178 : bc_ckM 178 = true := by decide +kernel
theorem bc_k179 : bc_ckM 179 = true := by decide +kernel
theorem bc_k180 : bc_ckM 180 = true := by decide +kernel
theorem bc_k181 : bc_ckM 181 = true := by decide +kernel
theorem bc_k182 : bc_ckM 182 = true := by decide +kernel
theorem bc_k183 : bc_ckM 183 = true := by decide +kernel
theorem bc_k184 : bc_ckM 184 = true := by decide +kernel
theorem bc_k185 : bc_ckM 185 = true := by decide +kernel
theorem bc_k186 : bc_ckM 186 = true := by decide +kernel
theorem bc_k187 : bc_ckM 187 = true := by decide +kernel
theorem bc_k188 : bc_ckM 188 = true := by decide +kernel
theorem bc_k189 : bc_ckM 189 = true := by decide +kernel
theorem bc_k190 : bc_ckM 190 = true := by decide +kernel
theorem bc_k191 : bc_ckM 191 = true := by decide +kernel
theorem bc_k192 : bc_ckM 192 = true := by decide +kernel
theorem bc_k193 : bc_ckM 193 = true := by decide +kernel
theorem bc_k194 : bc_ckM 194 = true := by decide +kernel
theorem bc_k195 : bc_ckM 195 = true := by decide +kernel
theorem bc_k196 : bc_ckM 196 = true := by decide +kernel
theorem bc_k197 : bc_ckM 197 = true := by decide +kernel
theorem bc_k198 : bc_ckM 198 = true := by decide +kernel
theorem bc_k199 : bc_ckM 199 = true := by decide +kernel
theorem bc_k200 : bc_ckM 200 = true := by decide +kernel
theorem bc_k201 : bc_ckM 201 = true := by decide +kernel
theorem bc_k202 : bc_ckM 202 = true := by decide +kernel
theorem bc_k203 : bc_ckM 203 = true := by decide +kernel
theorem bc_k204 : bc_ckM 204 = true := by decide +kernel
theorem bc_k205 : bc_ckM 205 = true := by decide +kernel
theorem bc_k206 : bc_ckM 206 = true := by decide +kernel
theorem bc_k207 : bc_ckM 207 = true := by decide +kernel
theorem bc_k208 : bc_ckM 208 = true := by decide +kernel
theorem bc_k209 : bc_ckM 209 = true := by decide +kernel
theorem bc_k210 : bc_ckM 210 = true := by decide +kernel
theorem bc_k211 : bc_ckM 211 = true := by decide +kernel
theorem bc_k212 : bc_ckM 212 = true := by decide +kernel
theorem bc_k213 : bc_ckM 213 = true := by decide +kernel
theorem bc_k214 : bc_ckM 214 = true := by decide +kernel
theorem bc_k215 : bc_ckM 215 = true := by decide +kernel
theorem bc_k216 : bc_ckM 216 = true := by decide +kernel
theorem bc_k217 : bc_ckM 217 = true := by decide +kernel
theorem bc_k218 : bc_ckM 218 = true := by decide +kernel
theorem bc_k219 : bc_ckM 219 = true := by decide +kernel
theorem bc_k220 : bc_ckM 220 = true := by decide +kernel
theorem bc_k221 : bc_ckM 221 = true := by decide +kernel
theorem bc_k222 : bc_ckM 222 = true := by decide +kernel
theorem bc_k223 : bc_ckM 223 = true := by decide +kernel
theorem bc_k224 : bc_ckM 224 = true := by decide +kernel
theorem bc_k225 : bc_ckM 225 = true := by decide +kernel
theorem bc_k226 : bc_ckM 226 = true := by decide +kernel
theorem bc_k227 : bc_ckM 227 = true := by decide +kernel
theorem bc_k228 : bc_ckM 228 = true := by decide +kernel
theorem bc_k229 : bc_ckM 229 = true := by decide +kernel
theorem bc_k230 : bc_ckM 230 = true := by decide +kernel
theorem bc_k231 : bc_ckM 231 = true := by decide +kernel
theorem bc_k232 : bc_ckM 232 = true := by decide +kernel
theorem bc_k233 : bc_ckM 233 = true := by decide +kernel
theorem bc_k234 : bc_ckM 234 = true := by decide +kernel
theorem bc_k235 : bc_ckM 235 = true := by decide +kernel
theorem bc_k236 : bc_ckM 236 = true := by decide +kernel
theorem bc_k237 : bc_ckM 237 = true := by decide +kernel
theorem bc_k238 : bc_ckM 238 = true := by decide +kernel
theorem bc_k239 : bc_ckM 239 = true := by decide +kernel
theorem bc_k240 : bc_ckM 240 = true := by decide +kernel
theorem bc_k241 : bc_ckM 241 = true := by decide +kernel
theorem bc_k242 : bc_ckM 242 = true := by decide +kernel
theorem bc_k243 : bc_ckM 243 = true := by decide +kernel
theorem bc_k244 : bc_ckM 244 = true := by decide +kernel
theorem bc_k245 : bc_ckM 245 = true := by decide +kernel
theorem bc_k246 : bc_ckM 246 = true := by decide +kernel
theorem bc_k247 : bc_ckM 247 = true := by decide +kernel
theorem bc_k248 : bc_ckM 248 = true := by decide +kernel
theorem bc_k249 : bc_ckM 249 = true := by decide +kernel
theorem bc_k250 : bc_ckM 250 = true := by decide +kernel
theorem bc_k251 : bc_ckM 251 = true := by decide +kernel
theorem bc_k252 : bc_ckM 252 = true := by decide +kernel
theorem bc_k253 : bc_ckM 253 = true := by decide +kernel
theorem bc_k254 : bc_ckM 254 = true := by decide +kernel
theorem bc_k255 : bc_ckM 255 = true := by decide +kernel
theorem bc_k256 : bc_ckM 256 = true := by decide +kernel
theorem bc_k257 : bc_ckM 257 = true := by decide +kernel
theorem bc_k258 : bc_ckM 258 = true := by decide +kernel
theorem bc_k259 : bc_ckM 259 = true := by decide +kernel
theorem bc_k260 : bc_ckM 260 = true := by decide +kernel
theorem bc_k261 : bc_ckM 261 = true := by decide +kernel
theorem bc_k262 : bc_ckM 262 = true := by decide +kernel
theorem bc_k263 : bc_ckM 263 = true := by decide +kernel
theorem bc_k264 : bc_ckM 264 = true := by decide +kernel
theorem bc_k265 : bc_ckM 265 = true := by decide +kernel
theorem bc_k266 : bc_ckM 266 = true := by decide +kernel
theorem bc_k267 : bc_ckM 267 = true := by decide +kernel
theorem bc_k268 : bc_ckM 268 = true := by decide +kernel
theorem bc_k269 : bc_ckM 269 = true := by decide +kernel
theorem bc_k270 : bc_ckM 270 = true := by decide +kernel
theorem bc_k271 : bc_ckM 271 = true := by decide +kernel
theorem bc_k272 : bc_ckM 272 = true := by decide +kernel
theorem bc_k273 : bc_ckM 273 = true := by decide +kernel
theorem bc_k274 : bc_ckM 274 = true := by decide +kernel
theorem bc_k275 : bc_ckM 275 = true := by decide +kernel
theorem bc_k276 : bc_ckM 276 = true := by decide +kernel
theorem bc_k277 : bc_ckM 277 = true := by decide +kernel
theorem bc_k278 : bc_ckM 278 = true := by decide +kernel
theorem bc_k279 : bc_ckM 279 = true := by decide +kernel
theorem bc_k280 : bc_ckM 280 = true := by decide +kernel
theorem bc_k281 : bc_ckM 281 = true := by decide +kernel
theorem bc_k282 : bc_ckM 282 = true := by decide +kernel
theorem bc_k283 : bc_ckM 283 = true := by decide +kernel
theorem bc_k284 : bc_ckM 284 = true := by decide +kernel
theorem bc_k285 : bc_ckM 285 = true := by decide +kernel
theorem bc_k286 : bc_ckM 286 = true := by decide +kernel
theorem bc_k287 : bc_ckM 287 = true := by decide +kernel
theorem bc_k288 : bc_ckM 288 = true := by decide +kernel
theorem bc_k289 : bc_ckM 289 = true := by decide +kernel
theorem bc_k290 : bc_ckM 290 = true := by decide +kernel
theorem bc_k291 : bc_ckM 291 = true := by decide +kernel
theorem bc_k292 : bc_ckM 292 = true := by decide +kernel
theorem bc_k293 : bc_ckM 293 = true := by decide +kernel
theorem bc_k294 : bc_ckM 294 = true := by decide +kernel
theorem bc_k295 : bc_ckM 295 = true := by decide +kernel
theorem bc_k296 : bc_ckM 296 = true := by decide +kernel
theorem bc_k297 : bc_ckM 297 = true := by decide +kernel
theorem bc_k298 : bc_ckM 298 = true := by decide +kernel
theorem bc_k299 : bc_ckM 299 = true := by decide +kernel
theorem bc_k300 : bc_ckM 300 = true := by decide +kernel
theorem bc_k301 : bc_ckM 301 = true := by decide +kernel
theorem bc_k302 : bc_ckM 302 = true := by decide +kernel
theorem bc_k303 : bc_ckM 303 = true := by decide +kernel
theorem bc_k304 : bc_ckM 304 = true := by decide +kernel
theorem bc_k305 : bc_ckM 305 = true := by decide +kernel
theorem bc_k306 : bc_ckM 306 = true := by decide +kernel
theorem bc_k307 : bc_ckM 307 = true := by decide +kernel
theorem bc_k308 : bc_ckM 308 = true := by decide +kernel
theorem bc_k309 : bc_ckM 309 = true := by decide +kernel
theorem bc_k310 : bc_ckM 310 = true := by decide +kernel
theorem bc_k311 : bc_ckM 311 = true := by decide +kernel
theorem bc_k312 : bc_ckM 312 = true := by decide +kernel
theorem bc_k313 : bc_ckM 313 = true := by decide +kernel
theorem bc_k314 : bc_ckM 314 = true := by decide +kernel
theorem bc_k315 : bc_ckM 315 = true := by decide +kernel
theorem bc_k316 : bc_ckM 316 = true := by decide +kernel
theorem bc_k317 : bc_ckM 317 = true := by decide +kernel
theorem bc_k318 : bc_ckM 318 = true := by decide +kernel
theorem bc_k319 : bc_ckM 319 = true := by decide +kernel
theorem bc_k320 : bc_ckM 320 = true := by decide +kernel
theorem bc_k321 : bc_ckM 321 = true := by decide +kernel
theorem bc_k322 : bc_ckM 322 = true := by decide +kernel
theorem bc_k323 : bc_ckM 323 = true := by decide +kernel
theorem bc_k324 : bc_ckM 324 = true := by decide +kernel
theorem bc_k325 : bc_ckM 325 = true := by decide +kernel
theorem bc_k326 : bc_ckM 326 = true := by decide +kernel
theorem bc_k327 : bc_ckM 327 = true := by decide +kernel
theorem bc_k328 : bc_ckM 328 = true := by decide +kernel
theorem bc_k329 : bc_ckM 329 = true := by decide +kernel
theorem bc_k330 : bc_ckM 330 = true := by decide +kernel
theorem bc_k331 : bc_ckM 331 = true := by decide +kernel
theorem bc_k332 : bc_ckM 332 = true := by decide +kernel
theorem bc_k333 : bc_ckM 333 = true := by decide +kernel
theorem bc_k334 : bc_ckM 334 = true := by decide +kernel
theorem bc_k335 : bc_ckM 335 = true := by decide +kernel
theorem bc_k336 : bc_ckM 336 = true := by decide +kernel
theorem bc_k337 : bc_ckM 337 = true := by decide +kernel
theorem bc_k338 : bc_ckM 338 = true := by decide +kernel
theorem bc_k339 : bc_ckM 339 = true := by decide +kernel
theorem bc_k340 : bc_ckM 340 = true := by decide +kernel
theorem bc_k341 : bc_ckM 341 = true := by decide +kernel
theorem bc_k342 : bc_ckM 342 = true := by decide +kernel
theorem bc_k343 : bc_ckM 343 = true := by decide +kernel
theorem bc_k344 : bc_ckM 344 = true := by decide +kernel
theorem bc_k345 : bc_ckM 345 = true := by decide +kernel
theorem bc_k346 : bc_ckM 346 = true := by decide +kernel
theorem bc_k347 : bc_ckM 347 = true := by decide +kernel
theorem bc_k348 : bc_ckM 348 = true := by decide +kernel
theorem bc_k349 : bc_ckM 349 = true := by decide +kernel
theorem bc_k350 : bc_ckM 350 = true := by decide +kernel
theorem bc_k351 : bc_ckM 351 = true := by decide +kernel
theorem bc_k352 : bc_ckM 352 = true := by decide +kernel
theorem bc_k353 : bc_ckM 353 = true := by decide +kernel
theorem bc_k354 : bc_ckM 354 = true := by decide +kernel
theorem bc_k355 : bc_ckM 355 = true := by decide +kernel
theorem bc_k356 : bc_ckM 356 = true := by decide +kernel
theorem bc_k357 : bc_ckM 357 = true := by decide +kernel
theorem bc_k361 : bc_ckM 361 = true := by decide +kernel
theorem bc_q1 : bc_cc 1 ∈ bc_T := bc_mem 1000 rfl rfl
theorem bc_q2 : bc_cc 2 ∈ bc_T := bc_mem 4072 rfl rfl
theorem bc_q3 : bc_cc 3 ∈ bc_T := bc_mem 4118 rfl rfl
theorem bc_q4 : bc_cc 4 ∈ bc_T := bc_mem 5027 rfl rfl
theorem bc_q5 : bc_cc 5 ∈ bc_T := bc_mem 5020 rfl rfl
theorem bc_q6 : bc_cc 6 ∈ bc_T := bc_mem 5045 rfl rfl
theorem bc_q7 : bc_cc 7 ∈ bc_T := bc_mem 1068 rfl rfl
theorem bc_q8 : bc_cc 8 ∈ bc_T := bc_mem 2203 rfl rfl
theorem bc_q9 : bc_cc 9 ∈ bc_T := bc_mem 4098 rfl rfl
theorem bc_q10 : bc_cc 10 ∈ bc_T := bc_mem 4226 rfl rfl
theorem bc_q11 : bc_cc 11 ∈ bc_T := bc_mem 4238 rfl rfl
theorem bc_q12 : bc_cc 12 ∈ bc_T := bc_mem 5007 rfl rfl
theorem bc_q13 : bc_cc 13 ∈ bc_T := bc_mem 1062 rfl rfl
theorem bc_q14 : bc_cc 14 ∈ bc_T := bc_mem 2199 rfl rfl
theorem bc_q15 : bc_cc 15 ∈ bc_T := bc_mem 4094 rfl rfl
theorem bc_q16 : bc_cc 16 ∈ bc_T := bc_mem 3044 rfl rfl
theorem bc_q17 : bc_cc 17 ∈ bc_T := bc_mem 3040 rfl rfl
theorem bc_q18 : bc_cc 18 ∈ bc_T := bc_mem 3060 rfl rfl
theorem bc_q19 : bc_cc 19 ∈ bc_T := bc_mem 4075 rfl rfl
theorem bc_q20 : bc_cc 20 ∈ bc_T := bc_mem 4003 rfl rfl
theorem bc_q21 : bc_cc 21 ∈ bc_T := bc_mem 3177 rfl rfl
theorem bc_q22 : bc_cc 22 ∈ bc_T := bc_mem 3220 rfl rfl
theorem bc_q23 : bc_cc 23 ∈ bc_T := bc_mem 3080 rfl rfl
theorem bc_q24 : bc_cc 24 ∈ bc_T := bc_mem 3204 rfl rfl
theorem bc_q25 : bc_cc 25 ∈ bc_T := bc_mem 3174 rfl rfl
theorem bc_q26 : bc_cc 26 ∈ bc_T := bc_mem 3170 rfl rfl
theorem bc_q27 : bc_cc 27 ∈ bc_T := bc_mem 3184 rfl rfl
theorem bc_q28 : bc_cc 28 ∈ bc_T := bc_mem 4000 rfl rfl
theorem bc_q29 : bc_cc 29 ∈ bc_T := bc_mem 4018 rfl rfl
theorem bc_q30 : bc_cc 30 ∈ bc_T := bc_mem 4026 rfl rfl
theorem bc_q31 : bc_cc 31 ∈ bc_T := bc_mem 4035 rfl rfl
theorem bc_q32 : bc_cc 32 ∈ bc_T := bc_mem 1238 rfl rfl
theorem bc_q33 : bc_cc 33 ∈ bc_T := bc_mem 3112 rfl rfl
theorem bc_q34 : bc_cc 34 ∈ bc_T := bc_mem 5156 rfl rfl
theorem bc_q35 : bc_cc 35 ∈ bc_T := bc_mem 3134 rfl rfl
theorem bc_q36 : bc_cc 36 ∈ bc_T := bc_mem 3138 rfl rfl
theorem bc_q37 : bc_cc 37 ∈ bc_T := bc_mem 1128 rfl rfl
theorem bc_q38 : bc_cc 38 ∈ bc_T := bc_mem 2215 rfl rfl
theorem bc_q39 : bc_cc 39 ∈ bc_T := bc_mem 4108 rfl rfl
theorem bc_q40 : bc_cc 40 ∈ bc_T := bc_mem 3088 rfl rfl
theorem bc_q41 : bc_cc 41 ∈ bc_T := bc_mem 4172 rfl rfl
theorem bc_q42 : bc_cc 42 ∈ bc_T := bc_mem 4180 rfl rfl
theorem bc_q43 : bc_cc 43 ∈ bc_T := bc_mem 4189 rfl rfl
theorem bc_q44 : bc_cc 44 ∈ bc_T := bc_mem 4205 rfl rfl
theorem bc_q45 : bc_cc 45 ∈ bc_T := bc_mem 4201 rfl rfl
theorem bc_q46 : bc_cc 46 ∈ bc_T := bc_mem 4197 rfl rfl
theorem bc_q47 : bc_cc 47 ∈ bc_T := bc_mem 4217 rfl rfl
theorem bc_q48 : bc_cc 48 ∈ bc_T := bc_mem 197 rfl rfl
theorem bc_q49 : bc_cc 49 ∈ bc_T := bc_mem 5103 rfl rfl
theorem bc_q50 : bc_cc 50 ∈ bc_T := bc_mem 5108 rfl rfl
theorem bc_q51 : bc_cc 51 ∈ bc_T := bc_mem 5112 rfl rfl
theorem bc_q52 : bc_cc 52 ∈ bc_T := bc_mem 5120 rfl rfl
theorem bc_q53 : bc_cc 53 ∈ bc_T := bc_mem 5116 rfl rfl
theorem bc_q54 : bc_cc 54 ∈ bc_T := bc_mem 5127 rfl rfl
theorem bc_q55 : bc_cc 55 ∈ bc_T := bc_mem 5134 rfl rfl
theorem bc_q56 : bc_cc 56 ∈ bc_T := bc_mem 5138 rfl rfl
theorem bc_q57 : bc_cc 57 ∈ bc_T := bc_mem 163 rfl rfl
theorem bc_q58 : bc_cc 58 ∈ bc_T := bc_mem 2195 rfl rfl
theorem bc_q59 : bc_cc 59 ∈ bc_T := bc_mem 3006 rfl rfl
theorem bc_q60 : bc_cc 60 ∈ bc_T := bc_mem 3032 rfl rfl
theorem bc_q61 : bc_cc 61 ∈ bc_T := bc_mem 3056 rfl rfl
theorem bc_q62 : bc_cc 62 ∈ bc_T := bc_mem 3010 rfl rfl
theorem bc_q63 : bc_cc 63 ∈ bc_T := bc_mem 3024 rfl rfl
theorem bc_q64 : bc_cc 64 ∈ bc_T := bc_mem 3028 rfl rfl
theorem bc_q65 : bc_cc 65 ∈ bc_T := bc_mem 3048 rfl rfl
theorem bc_q66 : bc_cc 66 ∈ bc_T := bc_mem 3068 rfl rfl
theorem bc_q67 : bc_cc 67 ∈ bc_T := bc_mem 3076 rfl rfl
theorem bc_q68 : bc_cc 68 ∈ bc_T := bc_mem 3084 rfl rfl
theorem bc_q69 : bc_cc 69 ∈ bc_T := bc_mem 3092 rfl rfl
theorem bc_q70 : bc_cc 70 ∈ bc_T := bc_mem 3096 rfl rfl
theorem bc_q71 : bc_cc 71 ∈ bc_T := bc_mem 3125 rfl rfl
theorem bc_q72 : bc_cc 72 ∈ bc_T := bc_mem 3130 rfl rfl
theorem bc_q73 : bc_cc 73 ∈ bc_T := bc_mem 3143 rfl rfl
theorem bc_q74 : bc_cc 74 ∈ bc_T := bc_mem 3146 rfl rfl
theorem bc_q75 : bc_cc 75 ∈ bc_T := bc_mem 3154 rfl rfl
theorem bc_q76 : bc_cc 76 ∈ bc_T := bc_mem 3150 rfl rfl
theorem bc_q77 : bc_cc 77 ∈ bc_T := bc_mem 1019 rfl rfl
theorem bc_q78 : bc_cc 78 ∈ bc_T := bc_mem 4147 rfl rfl
theorem bc_q79 : bc_cc 79 ∈ bc_T := bc_mem 4143 rfl rfl
theorem bc_q80 : bc_cc 80 ∈ bc_T := bc_mem 4152 rfl rfl
theorem bc_q81 : bc_cc 81 ∈ bc_T := bc_mem 4158 rfl rfl
theorem bc_q82 : bc_cc 82 ∈ bc_T := bc_mem 5055 rfl rfl
theorem bc_q83 : bc_cc 83 ∈ bc_T := bc_mem 5060 rfl rfl
theorem bc_q84 : bc_cc 84 ∈ bc_T := bc_mem 5064 rfl rfl
theorem bc_q85 : bc_cc 85 ∈ bc_T := bc_mem 5073 rfl rfl
theorem bc_q86 : bc_cc 86 ∈ bc_T := bc_mem 5068 rfl rfl
theorem bc_q87 : bc_cc 87 ∈ bc_T := bc_mem 53 rfl rfl
theorem bc_q88 : bc_cc 88 ∈ bc_T := bc_mem 2187 rfl rfl
theorem bc_q89 : bc_cc 89 ∈ bc_T := bc_mem 2219 rfl rfl
theorem bc_q90 : bc_cc 90 ∈ bc_T := bc_mem 3002 rfl rfl
theorem bc_q91 : bc_cc 91 ∈ bc_T := bc_mem 3036 rfl rfl
theorem bc_q92 : bc_cc 92 ∈ bc_T := bc_mem 3014 rfl rfl
theorem bc_q93 : bc_cc 93 ∈ bc_T := bc_mem 3064 rfl rfl
theorem bc_q94 : bc_cc 94 ∈ bc_T := bc_mem 3100 rfl rfl
theorem bc_q95 : bc_cc 95 ∈ bc_T := bc_mem 3019 rfl rfl
theorem bc_q96 : bc_cc 96 ∈ bc_T := bc_mem 2226 rfl rfl
theorem bc_q97 : bc_cc 97 ∈ bc_T := bc_mem 2230 rfl rfl
theorem bc_q98 : bc_cc 98 ∈ bc_T := bc_mem 2234 rfl rfl
theorem bc_q99 : bc_cc 99 ∈ bc_T := bc_mem 2238 rfl rfl
theorem bc_q100 : bc_cc 100 ∈ bc_T := bc_mem 35 rfl rfl
theorem bc_q101 : bc_cc 101 ∈ bc_T := bc_mem 2113 rfl rfl
theorem bc_q102 : bc_cc 102 ∈ bc_T := bc_mem 2141 rfl rfl
theorem bc_q103 : bc_cc 103 ∈ bc_T := bc_mem 2172 rfl rfl
theorem bc_q104 : bc_cc 104 ∈ bc_T := bc_mem 2145 rfl rfl
theorem bc_q105 : bc_cc 105 ∈ bc_T := bc_mem 2125 rfl rfl
theorem bc_q106 : bc_cc 106 ∈ bc_T := bc_mem 2164 rfl rfl
theorem bc_q107 : bc_cc 107 ∈ bc_T := bc_mem 2149 rfl rfl
theorem bc_q108 : bc_cc 108 ∈ bc_T := bc_mem 2152 rfl rfl
theorem bc_q109 : bc_cc 109 ∈ bc_T := bc_mem 2176 rfl rfl
theorem bc_q110 : bc_cc 110 ∈ bc_T := bc_mem 1086 rfl rfl
theorem bc_q111 : bc_cc 111 ∈ bc_T := bc_mem 2210 rfl rfl
theorem bc_q112 : bc_cc 112 ∈ bc_T := bc_mem 4103 rfl rfl
theorem bc_q113 : bc_cc 113 ∈ bc_T := bc_mem 3052 rfl rfl
theorem bc_q114 : bc_cc 114 ∈ bc_T := bc_mem 3072 rfl rfl
theorem bc_q115 : bc_cc 115 ∈ bc_T := bc_mem 3166 rfl rfl
theorem bc_q116 : bc_cc 116 ∈ bc_T := bc_mem 4131 rfl rfl
theorem bc_q117 : bc_cc 117 ∈ bc_T := bc_mem 3104 rfl rfl
theorem bc_q118 : bc_cc 118 ∈ bc_T := bc_mem 3108 rfl rfl
theorem bc_q119 : bc_cc 119 ∈ bc_T := bc_mem 27 rfl rfl
theorem bc_q120 : bc_cc 120 ∈ bc_T := bc_mem 2098 rfl rfl
theorem bc_q121 : bc_cc 121 ∈ bc_T := bc_mem 2102 rfl rfl
theorem bc_q122 : bc_cc 122 ∈ bc_T := bc_mem 2106 rfl rfl
theorem bc_q123 : bc_cc 123 ∈ bc_T := bc_mem 2110 rfl rfl
theorem bc_q124 : bc_cc 124 ∈ bc_T := bc_mem 2133 rfl rfl
theorem bc_q125 : bc_cc 125 ∈ bc_T := bc_mem 2156 rfl rfl
theorem bc_q126 : bc_cc 126 ∈ bc_T := bc_mem 2168 rfl rfl
theorem bc_q127 : bc_cc 127 ∈ bc_T := bc_mem 2183 rfl rfl
theorem bc_q128 : bc_cc 128 ∈ bc_T := bc_mem 2191 rfl rfl
theorem bc_q129 : bc_cc 129 ∈ bc_T := bc_mem 3120 rfl rfl
theorem bc_q130 : bc_cc 130 ∈ bc_T := bc_mem 3158 rfl rfl
theorem bc_q131 : bc_cc 131 ∈ bc_T := bc_mem 3162 rfl rfl
theorem bc_q132 : bc_cc 132 ∈ bc_T := bc_mem 3188 rfl rfl
theorem bc_q133 : bc_cc 133 ∈ bc_T := bc_mem 3196 rfl rfl
theorem bc_q134 : bc_cc 134 ∈ bc_T := bc_mem 3208 rfl rfl
theorem bc_q135 : bc_cc 135 ∈ bc_T := bc_mem 3216 rfl rfl
theorem bc_q136 : bc_cc 136 ∈ bc_T := bc_mem 3224 rfl rfl
theorem bc_q137 : bc_cc 137 ∈ bc_T := bc_mem 3232 rfl rfl
theorem bc_q138 : bc_cc 138 ∈ bc_T := bc_mem 3236 rfl rfl
theorem bc_q139 : bc_cc 139 ∈ bc_T := bc_mem 4014 rfl rfl
theorem bc_q140 : bc_cc 140 ∈ bc_T := bc_mem 4022 rfl rfl
theorem bc_q141 : bc_cc 141 ∈ bc_T := bc_mem 4031 rfl rfl
theorem bc_q142 : bc_cc 142 ∈ bc_T := bc_mem 4039 rfl rfl
theorem bc_q143 : bc_cc 143 ∈ bc_T := bc_mem 4043 rfl rfl
theorem bc_q144 : bc_cc 144 ∈ bc_T := bc_mem 4047 rfl rfl
theorem bc_q145 : bc_cc 145 ∈ bc_T := bc_mem 4052 rfl rfl
theorem bc_q146 : bc_cc 146 ∈ bc_T := bc_mem 4057 rfl rfl
theorem bc_q147 : bc_cc 147 ∈ bc_T := bc_mem 4064 rfl rfl
theorem bc_q148 : bc_cc 148 ∈ bc_T := bc_mem 4068 rfl rfl
theorem bc_q149 : bc_cc 149 ∈ bc_T := bc_mem 4082 rfl rfl
theorem bc_q150 : bc_cc 150 ∈ bc_T := bc_mem 4086 rfl rfl
theorem bc_q151 : bc_cc 151 ∈ bc_T := bc_mem 4090 rfl rfl
theorem bc_q152 : bc_cc 152 ∈ bc_T := bc_mem 4114 rfl rfl
theorem bc_q153 : bc_cc 153 ∈ bc_T := bc_mem 4123 rfl rfl
theorem bc_q154 : bc_cc 154 ∈ bc_T := bc_mem 4127 rfl rfl
theorem bc_q155 : bc_cc 155 ∈ bc_T := bc_mem 4135 rfl rfl
theorem bc_q156 : bc_cc 156 ∈ bc_T := bc_mem 4164 rfl rfl
theorem bc_q157 : bc_cc 157 ∈ bc_T := bc_mem 4168 rfl rfl
theorem bc_q158 : bc_cc 158 ∈ bc_T := bc_mem 4176 rfl rfl
theorem bc_q159 : bc_cc 159 ∈ bc_T := bc_mem 4185 rfl rfl
theorem bc_q160 : bc_cc 160 ∈ bc_T := bc_mem 4193 rfl rfl
theorem bc_q161 : bc_cc 161 ∈ bc_T := bc_mem 4213 rfl rfl
theorem bc_q162 : bc_cc 162 ∈ bc_T := bc_mem 4222 rfl rfl
theorem bc_q163 : bc_cc 163 ∈ bc_T := bc_mem 4230 rfl rfl
theorem bc_q164 : bc_cc 164 ∈ bc_T := bc_mem 4234 rfl rfl
theorem bc_q165 : bc_cc 165 ∈ bc_T := bc_mem 5003 rfl rfl
theorem bc_q166 : bc_cc 166 ∈ bc_T := bc_mem 5011 rfl rfl
theorem bc_q167 : bc_cc 167 ∈ bc_T := bc_mem 5037 rfl rfl
theorem bc_q168 : bc_cc 168 ∈ bc_T := bc_mem 5041 rfl rfl
theorem bc_q169 : bc_cc 169 ∈ bc_T := bc_mem 5051 rfl rfl
theorem bc_q170 : bc_cc 170 ∈ bc_T := bc_mem 5077 rfl rfl
theorem bc_q171 : bc_cc 171 ∈ bc_T := bc_mem 5081 rfl rfl
theorem bc_q172 : bc_cc 172 ∈ bc_T := bc_mem 5095 rfl rfl
theorem bc_q173 : bc_cc 173 ∈ bc_T := bc_mem 5099 rfl rfl
theorem bc_q174 : bc_cc 174 ∈ bc_T := bc_mem 5144 rfl rfl
theorem bc_q175 : bc_cc 175 ∈ bc_T := bc_mem 5148 rfl rfl
theorem bc_q176 : bc_cc 176 ∈ bc_T := bc_mem 5152 rfl rfl
theorem bc_q177 : bc_cc 177 ∈ bc_T := bc_mem 5161 rfl rfl
theorem bc_q178 : bc_cc 178 ∈ bc_T := bc_mem 3116 rfl rfl
theorem bc_q179 : bc_cc 179 ∈ bc_T := bc_mem 2160 rfl rfl
theorem bc_q180 : bc_cc 180 ∈ bc_T := bc_mem 2129 rfl rfl
theorem bc_q181 : bc_cc 181 ∈ bc_T := bc_mem 2121 rfl rfl
theorem bc_q182 : bc_cc 182 ∈ bc_T := bc_mem 2116 rfl rfl
theorem bc_q183 : bc_cc 183 ∈ bc_T := bc_mem 4060 rfl rfl
theorem bc_q184 : bc_cc 184 ∈ bc_T := bc_mem 3212 rfl rfl
theorem bc_q185 : bc_cc 185 ∈ bc_T := bc_mem 3192 rfl rfl
theorem bc_q186 : bc_cc 186 ∈ bc_T := bc_mem 3200 rfl rfl
theorem bc_q187 : bc_cc 187 ∈ bc_T := bc_mem 3228 rfl rfl
theorem bc_q188 : bc_cc 188 ∈ bc_T := bc_mem 2137 rfl rfl
theorem bc_q189 : bc_cc 189 ∈ bc_T := bc_mem 4139 rfl rfl
theorem bc_q190 : bc_cc 190 ∈ bc_T := bc_mem 5015 rfl rfl
theorem bc_q191 : bc_cc 191 ∈ bc_T := bc_mem 5091 rfl rfl
theorem bc_q192 : bc_cc 192 ∈ bc_T := bc_mem 5087 rfl rfl
theorem bc_q193 : bc_cc 193 ∈ bc_T := bc_mem 5084 rfl rfl
theorem bc_q194 : bc_cc 194 ∈ bc_T := bc_mem 5166 rfl rfl
theorem bc_q195 : bc_cc 195 ∈ bc_T := bc_mem 5171 rfl rfl
theorem bc_q196 : bc_cc 196 ∈ bc_T := bc_mem 6087 rfl rfl
theorem bc_q197 : bc_cc 197 ∈ bc_T := bc_mem 6091 rfl rfl
theorem bc_q198 : bc_cc 198 ∈ bc_T := bc_mem 6095 rfl rfl
theorem bc_q199 : bc_cc 199 ∈ bc_T := bc_mem 6106 rfl rfl
theorem bc_q200 : bc_cc 200 ∈ bc_T := bc_mem 6166 rfl rfl
theorem bc_q201 : bc_cc 201 ∈ bc_T := bc_mem 7038 rfl rfl
theorem bc_q202 : bc_cc 202 ∈ bc_T := bc_mem 7130 rfl rfl
theorem bc_q203 : bc_cc 203 ∈ bc_T := bc_mem 8191 rfl rfl
theorem bc_q204 : bc_cc 204 ∈ bc_T := bc_mem 6102 rfl rfl
theorem bc_q205 : bc_cc 205 ∈ bc_T := bc_mem 6117 rfl rfl
theorem bc_q206 : bc_cc 206 ∈ bc_T := bc_mem 6099 rfl rfl
theorem bc_q207 : bc_cc 207 ∈ bc_T := bc_mem 6114 rfl rfl
theorem bc_q208 : bc_cc 208 ∈ bc_T := bc_mem 6110 rfl rfl
theorem bc_q209 : bc_cc 209 ∈ bc_T := bc_mem 6121 rfl rfl
theorem bc_q210 : bc_cc 210 ∈ bc_T := bc_mem 6126 rfl rfl
theorem bc_q211 : bc_cc 211 ∈ bc_T := bc_mem 7158 rfl rfl
theorem bc_q212 : bc_cc 212 ∈ bc_T := bc_mem 6130 rfl rfl
theorem bc_q213 : bc_cc 213 ∈ bc_T := bc_mem 6134 rfl rfl
theorem bc_q214 : bc_cc 214 ∈ bc_T := bc_mem 6154 rfl rfl
theorem bc_q215 : bc_cc 215 ∈ bc_T := bc_mem 6157 rfl rfl
theorem bc_q216 : bc_cc 216 ∈ bc_T := bc_mem 6160 rfl rfl
theorem bc_q217 : bc_cc 217 ∈ bc_T := bc_mem 6150 rfl rfl
theorem bc_q218 : bc_cc 218 ∈ bc_T := bc_mem 7030 rfl rfl
theorem bc_q219 : bc_cc 219 ∈ bc_T := bc_mem 6175 rfl rfl
theorem bc_q220 : bc_cc 220 ∈ bc_T := bc_mem 6181 rfl rfl
theorem bc_q221 : bc_cc 221 ∈ bc_T := bc_mem 6146 rfl rfl
theorem bc_q222 : bc_cc 222 ∈ bc_T := bc_mem 7026 rfl rfl
theorem bc_q223 : bc_cc 223 ∈ bc_T := bc_mem 6232 rfl rfl
theorem bc_q224 : bc_cc 224 ∈ bc_T := bc_mem 6185 rfl rfl
theorem bc_q225 : bc_cc 225 ∈ bc_T := bc_mem 6197 rfl rfl
theorem bc_q226 : bc_cc 226 ∈ bc_T := bc_mem 6209 rfl rfl
theorem bc_q227 : bc_cc 227 ∈ bc_T := bc_mem 6205 rfl rfl
theorem bc_q228 : bc_cc 228 ∈ bc_T := bc_mem 6138 rfl rfl
theorem bc_q229 : bc_cc 229 ∈ bc_T := bc_mem 7034 rfl rfl
theorem bc_q230 : bc_cc 230 ∈ bc_T := bc_mem 6216 rfl rfl
theorem bc_q231 : bc_cc 231 ∈ bc_T := bc_mem 7007 rfl rfl
theorem bc_q232 : bc_cc 232 ∈ bc_T := bc_mem 7014 rfl rfl
theorem bc_q233 : bc_cc 233 ∈ bc_T := bc_mem 6220 rfl rfl
theorem bc_q234 : bc_cc 234 ∈ bc_T := bc_mem 6201 rfl rfl
theorem bc_q235 : bc_cc 235 ∈ bc_T := bc_mem 6193 rfl rfl
theorem bc_q236 : bc_cc 236 ∈ bc_T := bc_mem 6228 rfl rfl
theorem bc_q237 : bc_cc 237 ∈ bc_T := bc_mem 7000 rfl rfl
theorem bc_q238 : bc_cc 238 ∈ bc_T := bc_mem 6224 rfl rfl
theorem bc_q239 : bc_cc 239 ∈ bc_T := bc_mem 6189 rfl rfl
theorem bc_q240 : bc_cc 240 ∈ bc_T := bc_mem 6213 rfl rfl
theorem bc_q241 : bc_cc 241 ∈ bc_T := bc_mem 6236 rfl rfl
theorem bc_q242 : bc_cc 242 ∈ bc_T := bc_mem 7004 rfl rfl
theorem bc_q243 : bc_cc 243 ∈ bc_T := bc_mem 7011 rfl rfl
theorem bc_q244 : bc_cc 244 ∈ bc_T := bc_mem 7018 rfl rfl
theorem bc_q245 : bc_cc 245 ∈ bc_T := bc_mem 7022 rfl rfl
theorem bc_q246 : bc_cc 246 ∈ bc_T := bc_mem 6170 rfl rfl
theorem bc_q247 : bc_cc 247 ∈ bc_T := bc_mem 6142 rfl rfl
theorem bc_q248 : bc_cc 248 ∈ bc_T := bc_mem 7054 rfl rfl
theorem bc_q249 : bc_cc 249 ∈ bc_T := bc_mem 7058 rfl rfl
theorem bc_q250 : bc_cc 250 ∈ bc_T := bc_mem 7062 rfl rfl
theorem bc_q251 : bc_cc 251 ∈ bc_T := bc_mem 7050 rfl rfl
theorem bc_q252 : bc_cc 252 ∈ bc_T := bc_mem 7046 rfl rfl
theorem bc_q253 : bc_cc 253 ∈ bc_T := bc_mem 7042 rfl rfl
theorem bc_q254 : bc_cc 254 ∈ bc_T := bc_mem 7118 rfl rfl
theorem bc_q255 : bc_cc 255 ∈ bc_T := bc_mem 7102 rfl rfl
theorem bc_q256 : bc_cc 256 ∈ bc_T := bc_mem 7110 rfl rfl
theorem bc_q257 : bc_cc 257 ∈ bc_T := bc_mem 7138 rfl rfl
theorem bc_q258 : bc_cc 258 ∈ bc_T := bc_mem 7230 rfl rfl
theorem bc_q259 : bc_cc 259 ∈ bc_T := bc_mem 7174 rfl rfl
theorem bc_q260 : bc_cc 260 ∈ bc_T := bc_mem 7074 rfl rfl
theorem bc_q261 : bc_cc 261 ∈ bc_T := bc_mem 7094 rfl rfl
theorem bc_q262 : bc_cc 262 ∈ bc_T := bc_mem 7142 rfl rfl
theorem bc_q263 : bc_cc 263 ∈ bc_T := bc_mem 7150 rfl rfl
theorem bc_q264 : bc_cc 264 ∈ bc_T := bc_mem 7090 rfl rfl
theorem bc_q265 : bc_cc 265 ∈ bc_T := bc_mem 7086 rfl rfl
theorem bc_q266 : bc_cc 266 ∈ bc_T := bc_mem 7082 rfl rfl
theorem bc_q267 : bc_cc 267 ∈ bc_T := bc_mem 7126 rfl rfl
theorem bc_q268 : bc_cc 268 ∈ bc_T := bc_mem 7070 rfl rfl
theorem bc_q269 : bc_cc 269 ∈ bc_T := bc_mem 7078 rfl rfl
theorem bc_q270 : bc_cc 270 ∈ bc_T := bc_mem 7066 rfl rfl
theorem bc_q271 : bc_cc 271 ∈ bc_T := bc_mem 7098 rfl rfl
theorem bc_q272 : bc_cc 272 ∈ bc_T := bc_mem 7106 rfl rfl
theorem bc_q273 : bc_cc 273 ∈ bc_T := bc_mem 7114 rfl rfl
theorem bc_q274 : bc_cc 274 ∈ bc_T := bc_mem 7122 rfl rfl
theorem bc_q275 : bc_cc 275 ∈ bc_T := bc_mem 7134 rfl rfl
theorem bc_q276 : bc_cc 276 ∈ bc_T := bc_mem 7146 rfl rfl
theorem bc_q277 : bc_cc 277 ∈ bc_T := bc_mem 7170 rfl rfl
theorem bc_q278 : bc_cc 278 ∈ bc_T := bc_mem 7166 rfl rfl
theorem bc_q279 : bc_cc 279 ∈ bc_T := bc_mem 7162 rfl rfl
theorem bc_q280 : bc_cc 280 ∈ bc_T := bc_mem 7154 rfl rfl
theorem bc_q281 : bc_cc 281 ∈ bc_T := bc_mem 7186 rfl rfl
theorem bc_q282 : bc_cc 282 ∈ bc_T := bc_mem 7182 rfl rfl
theorem bc_q283 : bc_cc 283 ∈ bc_T := bc_mem 7178 rfl rfl
theorem bc_q284 : bc_cc 284 ∈ bc_T := bc_mem 7195 rfl rfl
theorem bc_q285 : bc_cc 285 ∈ bc_T := bc_mem 7191 rfl rfl
theorem bc_q286 : bc_cc 286 ∈ bc_T := bc_mem 7204 rfl rfl
theorem bc_q287 : bc_cc 287 ∈ bc_T := bc_mem 7199 rfl rfl
theorem bc_q288 : bc_cc 288 ∈ bc_T := bc_mem 7208 rfl rfl
theorem bc_q289 : bc_cc 289 ∈ bc_T := bc_mem 7213 rfl rfl
theorem bc_q290 : bc_cc 290 ∈ bc_T := bc_mem 7217 rfl rfl
theorem bc_q291 : bc_cc 291 ∈ bc_T := bc_mem 7222 rfl rfl
theorem bc_q292 : bc_cc 292 ∈ bc_T := bc_mem 7226 rfl rfl
theorem bc_q293 : bc_cc 293 ∈ bc_T := bc_mem 7234 rfl rfl
theorem bc_q294 : bc_cc 294 ∈ bc_T := bc_mem 8054 rfl rfl
theorem bc_q295 : bc_cc 295 ∈ bc_T := bc_mem 8007 rfl rfl
theorem bc_q296 : bc_cc 296 ∈ bc_T := bc_mem 8011 rfl rfl
theorem bc_q297 : bc_cc 297 ∈ bc_T := bc_mem 8002 rfl rfl
theorem bc_q298 : bc_cc 298 ∈ bc_T := bc_mem 7239 rfl rfl
theorem bc_q299 : bc_cc 299 ∈ bc_T := bc_mem 8015 rfl rfl
theorem bc_q300 : bc_cc 300 ∈ bc_T := bc_mem 8019 rfl rfl
theorem bc_q301 : bc_cc 301 ∈ bc_T := bc_mem 8023 rfl rfl
theorem bc_q302 : bc_cc 302 ∈ bc_T := bc_mem 8027 rfl rfl
theorem bc_q303 : bc_cc 303 ∈ bc_T := bc_mem 8035 rfl rfl
theorem bc_q304 : bc_cc 304 ∈ bc_T := bc_mem 8031 rfl rfl
theorem bc_q305 : bc_cc 305 ∈ bc_T := bc_mem 8039 rfl rfl
theorem bc_q306 : bc_cc 306 ∈ bc_T := bc_mem 8062 rfl rfl
theorem bc_q307 : bc_cc 307 ∈ bc_T := bc_mem 8058 rfl rfl
theorem bc_q308 : bc_cc 308 ∈ bc_T := bc_mem 8051 rfl rfl
theorem bc_q309 : bc_cc 309 ∈ bc_T := bc_mem 8047 rfl rfl
theorem bc_q310 : bc_cc 310 ∈ bc_T := bc_mem 8043 rfl rfl
theorem bc_q311 : bc_cc 311 ∈ bc_T := bc_mem 8066 rfl rfl
theorem bc_q312 : bc_cc 312 ∈ bc_T := bc_mem 8078 rfl rfl
theorem bc_q313 : bc_cc 313 ∈ bc_T := bc_mem 8074 rfl rfl
theorem bc_q314 : bc_cc 314 ∈ bc_T := bc_mem 8070 rfl rfl
theorem bc_q315 : bc_cc 315 ∈ bc_T := bc_mem 8082 rfl rfl
theorem bc_q316 : bc_cc 316 ∈ bc_T := bc_mem 8086 rfl rfl
theorem bc_q317 : bc_cc 317 ∈ bc_T := bc_mem 8099 rfl rfl
theorem bc_q318 : bc_cc 318 ∈ bc_T := bc_mem 8095 rfl rfl
theorem bc_q319 : bc_cc 319 ∈ bc_T := bc_mem 8090 rfl rfl
theorem bc_q320 : bc_cc 320 ∈ bc_T := bc_mem 8103 rfl rfl
theorem bc_q321 : bc_cc 321 ∈ bc_T := bc_mem 8112 rfl rfl
theorem bc_q322 : bc_cc 322 ∈ bc_T := bc_mem 8107 rfl rfl
theorem bc_q323 : bc_cc 323 ∈ bc_T := bc_mem 8116 rfl rfl
theorem bc_q324 : bc_cc 324 ∈ bc_T := bc_mem 8125 rfl rfl
theorem bc_q325 : bc_cc 325 ∈ bc_T := bc_mem 8120 rfl rfl
theorem bc_q326 : bc_cc 326 ∈ bc_T := bc_mem 8129 rfl rfl
theorem bc_q327 : bc_cc 327 ∈ bc_T := bc_mem 8137 rfl rfl
theorem bc_q328 : bc_cc 328 ∈ bc_T := bc_mem 8146 rfl rfl
theorem bc_q329 : bc_cc 329 ∈ bc_T := bc_mem 8142 rfl rfl
theorem bc_q330 : bc_cc 330 ∈ bc_T := bc_mem 8133 rfl rfl
theorem bc_q331 : bc_cc 331 ∈ bc_T := bc_mem 8150 rfl rfl
theorem bc_q332 : bc_cc 332 ∈ bc_T := bc_mem 8158 rfl rfl
theorem bc_q333 : bc_cc 333 ∈ bc_T := bc_mem 8154 rfl rfl
theorem bc_q334 : bc_cc 334 ∈ bc_T := bc_mem 8175 rfl rfl
theorem bc_q335 : bc_cc 335 ∈ bc_T := bc_mem 8179 rfl rfl
theorem bc_q336 : bc_cc 336 ∈ bc_T := bc_mem 8171 rfl rfl
theorem bc_q337 : bc_cc 337 ∈ bc_T := bc_mem 8167 rfl rfl
theorem bc_q338 : bc_cc 338 ∈ bc_T := bc_mem 8162 rfl rfl
theorem bc_q339 : bc_cc 339 ∈ bc_T := bc_mem 8183 rfl rfl
theorem bc_q340 : bc_cc 340 ∈ bc_T := bc_mem 8187 rfl rfl
theorem bc_q341 : bc_cc 341 ∈ bc_T := bc_mem 8195 rfl rfl
theorem bc_q342 : bc_cc 342 ∈ bc_T := bc_mem 8224 rfl rfl
theorem bc_q343 : bc_cc 343 ∈ bc_T := bc_mem 8212 rfl rfl
theorem bc_q344 : bc_cc 344 ∈ bc_T := bc_mem 8216 rfl rfl
theorem bc_q345 : bc_cc 345 ∈ bc_T := bc_mem 8220 rfl rfl
theorem bc_q346 : bc_cc 346 ∈ bc_T := bc_mem 8208 rfl rfl
theorem bc_q347 : bc_cc 347 ∈ bc_T := bc_mem 8229 rfl rfl
theorem bc_q348 : bc_cc 348 ∈ bc_T := bc_mem 8233 rfl rfl
theorem bc_q349 : bc_cc 349 ∈ bc_T := bc_mem 8204 rfl rfl
theorem bc_q350 : bc_cc 350 ∈ bc_T := bc_mem 8199 rfl rfl
theorem bc_q351 : bc_cc 351 ∈ bc_T := bc_mem 8237 rfl rfl
theorem bc_q352 : bc_cc 352 ∈ bc_T := bc_mem 9001 rfl rfl
theorem bc_q353 : bc_cc 353 ∈ bc_T := bc_mem 9009 rfl rfl
theorem bc_q354 : bc_cc 354 ∈ bc_T := bc_mem 9005 rfl rfl
theorem bc_q355 : bc_cc 355 ∈ bc_T := bc_mem 9013 rfl rfl
theorem bc_q356 : bc_cc 356 ∈ bc_T := bc_mem 4007 rfl rfl
theorem bc_q357 : bc_cc 357 ∈ bc_T := bc_mem 5030 rfl rfl
theorem bc_q361 : bc_cc 361 ∈ bc_T := bc_mem 2206 rfl rfl
theorem bc_kc0 : ∀ i, i < 16 → 0 < 16 * 0 + i → 16 * 0 + i < 362 → ¬ (357 < 16 * 0 + i ∧ 16 * 0 + i < 361) → bc_ckM (16 * 0 + i) = true ∧ bc_cc (16 * 0 + i) ∈ bc_T
  | 0, _, h, _, _ => absurd h (by omega)
  | 1, _, _, _, _ => ⟨bc_k1, bc_q1⟩
  | 2, _, _, _, _ => ⟨bc_k2, bc_q2⟩
  | 3, _, _, _, _ => ⟨bc_k3, bc_q3⟩
  | 4, _, _, _, _ => ⟨bc_k4, bc_q4⟩
  | 5, _, _, _, _ => ⟨bc_k5, bc_q5⟩
  | 6, _, _, _, _ => ⟨bc_k6, bc_q6⟩
  | 7, _, _, _, _ => ⟨bc_k7, bc_q7⟩
  | 8, _, _, _, _ => ⟨bc_k8, bc_q8⟩
  | 9, _, _, _, _ => ⟨bc_k9, bc_q9⟩
  | 10, _, _, _, _ => ⟨bc_k10, bc_q10⟩
  | 11, _, _, _, _ => ⟨bc_k11, bc_q11⟩
  | 12, _, _, _, _ => ⟨bc_k12, bc_q12⟩
  | 13, _, _, _, _ => ⟨bc_k13, bc_q13⟩
  | 14, _, _, _, _ => ⟨bc_k14, bc_q14⟩
  | 15, _, _, _, _ => ⟨bc_k15, bc_q15⟩
  | n + 16, h, _, h2, _ => absurd h2 (by omega)
theorem bc_kc1 : ∀ i, i < 16 → 0 < 16 * 1 + i → 16 * 1 + i < 362 → ¬ (357 < 16 * 1 + i ∧ 16 * 1 + i < 361) → bc_ckM (16 * 1 + i) = true ∧ bc_cc (16 * 1 + i) ∈ bc_T
  | 0, _, _, _, _ => ⟨bc_k16, bc_q16⟩
  | 1, _, _, _, _ => ⟨bc_k17, bc_q17⟩
  | 2, _, _, _, _ => ⟨bc_k18, bc_q18⟩
  | 3, _, _, _, _ => ⟨bc_k19, bc_q19⟩
  | 4, _, _, _, _ => ⟨bc_k20, bc_q20⟩
  | 5, _, _, _, _ => ⟨bc_k21, bc_q21⟩
  | 6, _, _, _, _ => ⟨bc_k22, bc_q22⟩
  | 7, _, _, _, _ => ⟨bc_k23, bc_q23⟩
  | 8, _, _, _, _ => ⟨bc_k24, bc_q24⟩
  | 9, _, _, _, _ => ⟨bc_k25, bc_q25⟩
  | 10, _, _, _, _ => ⟨bc_k26, bc_q26⟩
  | 11, _, _, _, _ => ⟨bc_k27, bc_q27⟩
  | 12, _, _, _, _ => ⟨bc_k28, bc_q28⟩
  | 13, _, _, _, _ => ⟨bc_k29, bc_q29⟩
  | 14, _, _, _, _ => ⟨bc_k30, bc_q30⟩
  | 15, _, _, _, _ => ⟨bc_k31, bc_q31⟩
  | n + 16, h, _, h2, _ => absurd h2 (by omega)
theorem bc_kc2 : ∀ i, i < 16 → 0 < 16 * 2 + i → 16 * 2 + i < 362 → ¬ (357 < 16 * 2 + i ∧ 16 * 2 + i < 361) → bc_ckM (16 * 2 + i) = true ∧ bc_cc (16 * 2 + i) ∈ bc_T
  | 0, _, _, _, _ => ⟨bc_k32, bc_q32⟩
  | 1, _, _, _, _ => ⟨bc_k33, bc_q33⟩
  | 2, _, _, _, _ => ⟨bc_k34, bc_q34⟩
  | 3, _, _, _, _ => ⟨bc_k35, bc_q35⟩
  | 4, _, _, _, _ => ⟨bc_k36, bc_q36⟩
  | 5, _, _, _, _ => ⟨bc_k37, bc_q37⟩
  | 6, _, _, _, _ => ⟨bc_k38, bc_q38⟩
  | 7, _, _, _, _ => ⟨bc_k39, bc_q39⟩
  | 8, _, _, _, _ => ⟨bc_k40, bc_q40⟩
  | 9, _, _, _, _ => ⟨bc_k41, bc_q41⟩
  | 10, _, _, _, _ => ⟨bc_k42, bc_q42⟩
  | 11, _, _, _, _ => ⟨bc_k43, bc_q43⟩
  | 12, _, _, _, _ => ⟨bc_k44, bc_q44⟩
  | 13, _, _, _, _ => ⟨bc_k45, bc_q45⟩
  | 14, _, _, _, _ => ⟨bc_k46, bc_q46⟩
  | 15, _, _, _, _ => ⟨bc_k47, bc_q47⟩
  | n + 16, h, _, h2, _ => absurd h2 (by omega)
theorem bc_kc3 : ∀ i, i < 16 → 0 < 16 * 3 + i → 16 * 3 + i < 362 → ¬ (357 < 16 * 3 + i ∧ 16 * 3 + i < 361) → bc_ckM (16 * 3 + i) = true ∧ bc_cc (16 * 3 + i) ∈ bc_T
  | 0, _, _, _, _ => ⟨bc_k48, bc_q48⟩
  | 1, _, _, _, _ => ⟨bc_k49, bc_q49⟩
  | 2, _, _, _, _ => ⟨bc_k50, bc_q50⟩
  | 3, _, _, _, _ => ⟨bc_k51, bc_q51⟩
  | 4, _, _, _, _ => ⟨bc_k52, bc_q52⟩
  | 5, _, _, _, _ => ⟨bc_k53, bc_q53⟩
  | 6, _, _, _, _ => ⟨bc_k54, bc_q54⟩
  | 7, _, _, _, _ => ⟨bc_k55, bc_q55⟩
  | 8, _, _, _, _ => ⟨bc_k56, bc_q56⟩
  | 9, _, _, _, _ => ⟨bc_k57, bc_q57⟩
  | 10, _, _, _, _ => ⟨bc_k58, bc_q58⟩
  | 11, _, _, _, _ => ⟨bc_k59, bc_q59⟩
  | 12, _, _, _, _ => ⟨bc_k60, bc_q60⟩
  | 13, _, _, _, _ => ⟨bc_k61, bc_q61⟩
  | 14, _, _, _, _ => ⟨bc_k62, bc_q62⟩
  | 15, _, _, _, _ => ⟨bc_k63, bc_q63⟩
  | n + 16, h, _, h2, _ => absurd h2 (by omega)
theorem bc_kc4 : ∀ i, i < 16 → 0 < 16 * 4 + i → 16 * 4 + i < 362 → ¬ (357 < 16 * 4 + i ∧ 16 * 4 + i < 361) → bc_ckM (16 * 4 + i) = true ∧ bc_cc (16 * 4 + i) ∈ bc_T
  | 0, _, _, _, _ => ⟨bc_k64, bc_q64⟩
  | 1, _, _, _, _ => ⟨bc_k65, bc_q65⟩
  | 2, _, _, _, _ => ⟨bc_k66, bc_q66⟩
  | 3, _, _, _, _ => ⟨bc_k67, bc_q67⟩
  | 4, _, _, _, _ => ⟨bc_k68, bc_q68⟩
  | 5, _, _, _, _ => ⟨bc_k69, bc_q69⟩
  | 6, _, _, _, _ => ⟨bc_k70, bc_q70⟩
  | 7, _, _, _, _ => ⟨bc_k71, bc_q71⟩
  | 8, _, _, _, _ => ⟨bc_k72, bc_q72⟩
  | 9, _, _, _, _ => ⟨bc_k73, bc_q73⟩
  | 10, _, _, _, _ => ⟨bc_k74, bc_q74⟩
  | 11, _, _, _, _ => ⟨bc_k75, bc_q75⟩
  | 12, _, _, _, _ => ⟨bc_k76, bc_q76⟩
  | 13, _, _, _, _ => ⟨bc_k77, bc_q77⟩
  | 14, _, _, _, _ => ⟨bc_k78, bc_q78⟩
  | 15, _, _, _, _ => ⟨bc_k79, bc_q79⟩
  | n + 16, h, _, h2, _ => absurd h2 (by omega)
theorem bc_kc5 : ∀ i, i < 16 → 0 < 16 * 5 + i → 16 * 5 + i < 362 → ¬ (357 < 16 * 5 + i ∧ 16 * 5 + i < 361) → bc_ckM (16 * 5 + i) = true ∧ bc_cc (16 * 5 + i) ∈ bc_T
  | 0, _, _, _, _ => ⟨bc_k80, bc_q80⟩
  | 1, _, _, _, _ => ⟨bc_k81, bc_q81⟩
  | 2, _, _, _, _ => ⟨bc_k82, bc_q82⟩
  | 3, _, _, _, _ => ⟨bc_k83, bc_q83⟩
  | 4, _, _, _, _ => ⟨bc_k84, bc_q84⟩
  | 5, _, _, _, _ => ⟨bc_k85, bc_q85⟩
  | 6, _, _, _, _ => ⟨bc_k86, bc_q86⟩
  | 7, _, _, _, _ => ⟨bc_k87, bc_q87⟩
  | 8, _, _, _, _ => ⟨bc_k88, bc_q88⟩
  | 9, _, _, _, _ => ⟨bc_k89, bc_q89⟩
  | 10, _, _, _, _ => ⟨bc_k90, bc_q90⟩
  | 11, _, _, _, _ => ⟨bc_k91, bc_q91⟩
  | 12, _, _, _, _ => ⟨bc_k92, bc_q92⟩
  | 13, _, _, _, _ => ⟨bc_k93, bc_q93⟩
  | 14, _, _, _, _ => ⟨bc_k94, bc_q94⟩
  | 15, _, _, _, _ => ⟨bc_k95, bc_q95⟩
  | n + 16, h, _, h2, _ => absurd h2 (by omega)
theorem bc_kc6 : ∀ i, i < 16 → 0 < 16 * 6 + i → 16 * 6 + i < 362 → ¬ (357 < 16 * 6 + i ∧ 16 * 6 + i < 361) → bc_ckM (16 * 6 + i) = true ∧ bc_cc (16 * 6 + i) ∈ bc_T
  | 0, _, _, _, _ => ⟨bc_k96, bc_q96⟩
  | 1, _, _, _, _ => ⟨bc_k97, bc_q97⟩
  | 2, _, _, _, _ => ⟨bc_k98, bc_q98⟩
  | 3, _, _, _, _ => ⟨bc_k99, bc_q99⟩
  | 4, _, _, _, _ => ⟨bc_k100, bc_q100⟩
  | 5, _, _, _, _ => ⟨bc_k101, bc_q101⟩
  | 6, _, _, _, _ => ⟨bc_k102, bc_q102⟩
  | 7, _, _, _, _ => ⟨bc_k103, bc_q103⟩
  | 8, _, _, _, _ => ⟨bc_k104, bc_q104⟩
  | 9, _, _, _, _ => ⟨bc_k105, bc_q105⟩
  | 10, _, _, _, _ => ⟨bc_k106, bc_q106⟩
  | 11, _, _, _, _ => ⟨bc_k107, bc_q107⟩
  | 12, _, _, _, _ => ⟨bc_k108, bc_q108⟩
  | 13, _, _, _, _ => ⟨bc_k109, bc_q109⟩
  | 14, _, _, _, _ => ⟨bc_k110, bc_q110⟩
  | 15, _, _, _, _ => ⟨bc_k111, bc_q111⟩
  | n + 16, h, _, h2, _ => absurd h2 (by omega)
theorem bc_kc7 : ∀ i, i < 16 → 0 < 16 * 7 + i → 16 * 7 + i < 362 → ¬ (357 < 16 * 7 + i ∧ 16 * 7 + i < 361) → bc_ckM (16 * 7 + i) = true ∧ bc_cc (16 * 7 + i) ∈ bc_T
  | 0, _, _, _, _ => ⟨bc_k112, bc_q112⟩
  | 1, _, _, _, _ => ⟨bc_k113, bc_q113⟩
  | 2, _, _, _, _ => ⟨bc_k114, bc_q114⟩
  | 3, _, _, _, _ => ⟨bc_k115, bc_q115⟩
  | 4, _, _, _, _ => ⟨bc_k116, bc_q116⟩
  | 5, _, _, _, _ => ⟨bc_k117, bc_q117⟩
  | 6, _, _, _, _ => ⟨bc_k118, bc_q118⟩
  | 7, _, _, _, _ => ⟨bc_k119, bc_q119⟩
  | 8, _, _, _, _ => ⟨bc_k120, bc_q120⟩
  | 9, _, _, _, _ => ⟨bc_k121, bc_q121⟩
  | 10, _, _, _, _ => ⟨bc_k122, bc_q122⟩
  | 11, _, _, _, _ => ⟨bc_k123, bc_q123⟩
  | 12, _, _, _, _ => ⟨bc_k124, bc_q124⟩
  | 13, _, _, _, _ => ⟨bc_k125, bc_q125⟩
  | 14, _, _, _, _ => ⟨bc_k126, bc_q126⟩
  | 15, _, _, _, _ => ⟨bc_k127, bc_q127⟩
  | n + 16, h, _, h2, _ => absurd h2 (by omega)
theorem bc_kc8 : ∀ i, i < 16 → 0 < 16 * 8 + i → 16 * 8 + i < 362 → ¬ (357 < 16 * 8 + i ∧ 16 * 8 + i < 361) → bc_ckM (16 * 8 + i) = true ∧ bc_cc (16 * 8 + i) ∈ bc_T
  | 0, _, _, _, _ => ⟨bc_k128, bc_q128⟩
  | 1, _, _, _, _ => ⟨bc_k129, bc_q129⟩
  | 2, _, _, _, _ => ⟨bc_k130, bc_q130⟩
  | 3, _, _, _, _ => ⟨bc_k131, bc_q131⟩
  | 4, _, _, _, _ => ⟨bc_k132, bc_q132⟩
  | 5, _, _, _, _ => ⟨bc_k133, bc_q133⟩
  | 6, _, _, _, _ => ⟨bc_k134, bc_q134⟩
  | 7, _, _, _, _ => ⟨bc_k135, bc_q135⟩
  | 8, _, _, _, _ => ⟨bc_k136, bc_q136⟩
  | 9, _, _, _, _ => ⟨bc_k137, bc_q137⟩
  | 10, _, _, _, _ => ⟨bc_k138, bc_q138⟩
  | 11, _, _, _, _ => ⟨bc_k139, bc_q139⟩
  | 12, _, _, _, _ => ⟨bc_k140, bc_q140⟩
  | 13, _, _, _, _ => ⟨bc_k141, bc_q141⟩
  | 14, _, _, _, _ => ⟨bc_k142, bc_q142⟩
  | 15, _, _, _, _ => ⟨bc_k143, bc_q143⟩
  | n + 16, h, _, h2, _ => absurd h2 (by omega)
theorem bc_kc9 : ∀ i, i < 16 → 0 < 16 * 9 + i → 16 * 9 + i < 362 → ¬ (357 < 16 * 9 + i ∧ 16 * 9 + i < 361) → bc_ckM (16 * 9 + i) = true ∧ bc_cc (16 * 9 + i) ∈ bc_T
  | 0, _, _, _, _ => ⟨bc_k144, bc_q144⟩
  | 1, _, _, _, _ => ⟨bc_k145, bc_q145⟩
  | 2, _, _, _, _ => ⟨bc_k146, bc_q146⟩
  | 3, _, _, _, _ => ⟨bc_k147, bc_q147⟩
  | 4, _, _, _, _ => ⟨bc_k148, bc_q148⟩
  | 5, _, _, _, _ => ⟨bc_k149, bc_q149⟩
  | 6, _, _, _, _ => ⟨bc_k150, bc_q150⟩
  | 7, _, _, _, _ => ⟨bc_k151, bc_q151⟩
  | 8, _, _, _, _ => ⟨bc_k152, bc_q152⟩
  | 9, _, _, _, _ => ⟨bc_k153, bc_q153⟩
  | 10, _, _, _, _ => ⟨bc_k154, bc_q154⟩
  | 11, _, _, _, _ => ⟨bc_k155, bc_q155⟩
  | 12, _, _, _, _ => ⟨bc_k156, bc_q156⟩
  | 13, _, _, _, _ => ⟨bc_k157, bc_q157⟩
  | 14, _, _, _, _ => ⟨bc_k158, bc_q158⟩
  | 15, _, _, _, _ => ⟨bc_k159, bc_q159⟩
  | n + 16, h, _, h2, _ => absurd h2 (by omega)
theorem bc_kc10 : ∀ i, i < 16 → 0 < 16 * 10 + i → 16 * 10 + i < 362 → ¬ (357 < 16 * 10 + i ∧ 16 * 10 + i < 361) → bc_ckM (16 * 10 + i) = true ∧ bc_cc (16 * 10 + i) ∈ bc_T
  | 0, _, _, _, _ => ⟨bc_k160, bc_q160⟩
  | 1, _, _, _, _ => ⟨bc_k161, bc_q161⟩
  | 2, _, _, _, _ => ⟨bc_k162, bc_q162⟩
  | 3, _, _, _, _ => ⟨bc_k163, bc_q163⟩
  | 4, _, _, _, _ => ⟨bc_k164, bc_q164⟩
  | 5, _, _, _, _ => ⟨bc_k165, bc_q165⟩
  | 6, _, _, _, _ => ⟨bc_k166, bc_q166⟩
  | 7, _, _, _, _ => ⟨bc_k167, bc_q167⟩
  | 8, _, _, _, _ => ⟨bc_k168, bc_q168⟩
  | 9, _, _, _, _ => ⟨bc_k169, bc_q169⟩
  | 10, _, _, _, _ => ⟨bc_k170, bc_q170⟩
  | 11, _, _, _, _ => ⟨bc_k171, bc_q171⟩
  | 12, _, _, _, _ => ⟨bc_k172, bc_q172⟩
  | 13, _, _, _, _ => ⟨bc_k173, bc_q173⟩
  | 14, _, _, _, _ => ⟨bc_k174, bc_q174⟩
  | 15, _, _, _, _ => ⟨bc_k175, bc_q175⟩
  | n + 16, h, _, h2, _ => absurd h2 (by omega)
theorem bc_kc11 : ∀ i, i < 16 → 0 < 16 * 11 + i → 16 * 11 + i < 362 → ¬ (357 < 16 * 11 + i ∧ 16 * 11 + i < 361) → bc_ckM (16 * 11 + i) = true ∧ bc_cc (16 * 11 + i) ∈ bc_T
  | 0, _, _, _, _ => ⟨bc_k176, bc_q176⟩
  | 1, _, _, _, _ => ⟨bc_k177, bc_q177⟩
  | 2, _, _, _, _ => ⟨bc_k178, bc_q178⟩
  | 3, _, _, _, _ => ⟨bc_k179, bc_q179⟩
  | 4, _, _, _, _ => ⟨bc_k180, bc_q180⟩
  | 5, _, _, _, _ => ⟨bc_k181, bc_q181⟩
  | 6, _, _, _, _ => ⟨bc_k182, bc_q182⟩
  | 7, _, _, _, _ => ⟨bc_k183, bc_q183⟩
  | 8, _, _, _, _ => ⟨bc_k184, bc_q184⟩
  | 9, _, _, _, _ => ⟨bc_k185, bc_q185⟩
  | 10, _, _, _, _ => ⟨bc_k186, bc_q186⟩
  | 11, _, _, _, _ => ⟨bc_k187, bc_q187⟩
  | 12, _, _, _, _ => ⟨bc_k188, bc_q188⟩
  | 13, _, _, _, _ => ⟨bc_k189, bc_q189⟩
  | 14, _, _, _, _ => ⟨bc_k190, bc_q190⟩
  | 15, _, _, _, _ => ⟨bc_k191, bc_q191⟩
  | n + 16, h, _, h2, _ => absurd h2 (by omega)
theorem bc_kc12 : ∀ i, i < 16 → 0 < 16 * 12 + i → 16 * 12 + i < 362 → ¬ (357 < 16 * 12 + i ∧ 16 * 12 + i < 361) → bc_ckM (16 * 12 + i) = true ∧ bc_cc (16 * 12 + i) ∈ bc_T
  | 0, _, _, _, _ => ⟨bc_k192, bc_q192⟩
  | 1, _, _, _, _ => ⟨bc_k193, bc_q193⟩
  | 2, _, _, _, _ => ⟨bc_k194, bc_q194⟩
  | 3, _, _, _, _ => ⟨bc_k195, bc_q195⟩
  | 4, _, _, _, _ => ⟨bc_k196, bc_q196⟩
  | 5, _, _, _, _ => ⟨bc_k197, bc_q197⟩
  | 6, _, _, _, _ => ⟨bc_k198, bc_q198⟩
  | 7, _, _, _, _ => ⟨bc_k199, bc_q199⟩
  | 8, _, _, _, _ => ⟨bc_k200, bc_q200⟩
  | 9, _, _, _, _ => ⟨bc_k201, bc_q201⟩
  | 10, _, _, _, _ => ⟨bc_k202, bc_q202⟩
  | 11, _, _, _, _ => ⟨bc_k203, bc_q203⟩
  | 12, _, _, _, _ => ⟨bc_k204, bc_q204⟩
  | 13, _, _, _, _ => ⟨bc_k205, bc_q205⟩
  | 14, _, _, _, _ => ⟨bc_k206, bc_q206⟩
  | 15, _, _, _, _ => ⟨bc_k207, bc_q207⟩
  | n + 16, h, _, h2, _ => absurd h2 (by omega)
theorem bc_kc13 : ∀ i, i < 16 → 0 < 16 * 13 + i → 16 * 13 + i < 362 → ¬ (357 < 16 * 13 + i ∧ 16 * 13 + i < 361) → bc_ckM (16 * 13 + i) = true ∧ bc_cc (16 * 13 + i) ∈ bc_T
  | 0, _, _, _, _ => ⟨bc_k208, bc_q208⟩
  | 1, _, _, _, _ => ⟨bc_k209, bc_q209⟩
  | 2, _, _, _, _ => ⟨bc_k210, bc_q210⟩
  | 3, _, _, _, _ => ⟨bc_k211, bc_q211⟩
  | 4, _, _, _, _ => ⟨bc_k212, bc_q212⟩
  | 5, _, _, _, _ => ⟨bc_k213, bc_q213⟩
  | 6, _, _, _, _ => ⟨bc_k214, bc_q214⟩
  | 7, _, _, _, _ => ⟨bc_k215, bc_q215⟩
  | 8, _, _, _, _ => ⟨bc_k216, bc_q216⟩
  | 9, _, _, _, _ => ⟨bc_k217, bc_q217⟩
  | 10, _, _, _, _ => ⟨bc_k218, bc_q218⟩
  | 11, _, _, _, _ => ⟨bc_k219, bc_q219⟩
  | 12, _, _, _, _ => ⟨bc_k220, bc_q220⟩
  | 13, _, _, _, _ => ⟨bc_k221, bc_q221⟩
  | 14, _, _, _, _ => ⟨bc_k222, bc_q222⟩
  | 15, _, _, _, _ => ⟨bc_k223, bc_q223⟩
  | n + 16, h, _, h2, _ => absurd h2 (by omega)
theorem bc_kc14 : ∀ i, i < 16 → 0 < 16 * 14 + i → 16 * 14 + i < 362 → ¬ (357 < 16 * 14 + i ∧ 16 * 14 + i < 361) → bc_ckM (16 * 14 + i) = true ∧ bc_cc (16 * 14 + i) ∈ bc_T
  | 0, _, _, _, _ => ⟨bc_k224, bc_q224⟩
  | 1, _, _, _, _ => ⟨bc_k225, bc_q225⟩
  | 2, _, _, _, _ => ⟨bc_k226, bc_q226⟩
  | 3, _, _, _, _ => ⟨bc_k227, bc_q227⟩
  | 4, _, _, _, _ => ⟨bc_k228, bc_q228⟩
  | 5, _, _, _, _ => ⟨bc_k229, bc_q229⟩
  | 6, _, _, _, _ => ⟨bc_k230, bc_q230⟩
  | 7, _, _, _, _ => ⟨bc_k231, bc_q231⟩
  | 8, _, _, _, _ => ⟨bc_k232, bc_q232⟩
  | 9, _, _, _, _ => ⟨bc_k233, bc_q233⟩
  | 10, _, _, _, _ => ⟨bc_k234, bc_q234⟩
  | 11, _, _, _, _ => ⟨bc_k235, bc_q235⟩
  | 12, _, _, _, _ => ⟨bc_k236, bc_q236⟩
  | 13, _, _, _, _ => ⟨bc_k237, bc_q237⟩
  | 14, _, _, _, _ => ⟨bc_k238, bc_q238⟩
  | 15, _, _, _, _ => ⟨bc_k239, bc_q239⟩
  | n + 16, h, _, h2, _ => absurd h2 (by omega)
theorem bc_kc15 : ∀ i, i < 16 → 0 < 16 * 15 + i → 16 * 15 + i < 362 → ¬ (357 < 16 * 15 + i ∧ 16 * 15 + i < 361) → bc_ckM (16 * 15 + i) = true ∧ bc_cc (16 * 15 + i) ∈ bc_T
  | 0, _, _, _, _ => ⟨bc_k240, bc_q240⟩
  | 1, _, _, _, _ => ⟨bc_k241, bc_q241⟩
  | 2, _, _, _, _ => ⟨bc_k242, bc_q242⟩
  | 3, _, _, _, _ => ⟨bc_k243, bc_q243⟩
  | 4, _, _, _, _ => ⟨bc_k244, bc_q244⟩
  | 5, _, _, _, _ => ⟨bc_k245, bc_q245⟩
  | 6, _, _, _, _ => ⟨bc_k246, bc_q246⟩
  | 7, _, _, _, _ => ⟨bc_k247, bc_q247⟩
  | 8, _, _, _, _ => ⟨bc_k248, bc_q248⟩
  | 9, _, _, _, _ => ⟨bc_k249, bc_q249⟩
  | 10, _, _, _, _ => ⟨bc_k250, bc_q250⟩
  | 11, _, _, _, _ => ⟨bc_k251, bc_q251⟩
  | 12, _, _, _, _ => ⟨bc_k252, bc_q252⟩
  | 13, _, _, _, _ => ⟨bc_k253, bc_q253⟩
  | 14, _, _, _, _ => ⟨bc_k254, bc_q254⟩
  | 15, _, _, _, _ => ⟨bc_k255, bc_q255⟩
  | n + 16, h, _, h2, _ => absurd h2 (by omega)
theorem bc_kc16 : ∀ i, i < 16 → 0 < 16 * 16 + i → 16 * 16 + i < 362 → ¬ (357 < 16 * 16 + i ∧ 16 * 16 + i < 361) → bc_ckM (16 * 16 + i) = true ∧ bc_cc (16 * 16 + i) ∈ bc_T
  | 0, _, _, _, _ => ⟨bc_k256, bc_q256⟩
  | 1, _, _, _, _ => ⟨bc_k257, bc_q257⟩
  | 2, _, _, _, _ => ⟨bc_k258, bc_q258⟩
  | 3, _, _, _, _ => ⟨bc_k259, bc_q259⟩
  | 4, _, _, _, _ => ⟨bc_k260, bc_q260⟩
  | 5, _, _, _, _ => ⟨bc_k261, bc_q261⟩
  | 6, _, _, _, _ => ⟨bc_k262, bc_q262⟩
  | 7, _, _, _, _ => ⟨bc_k263, bc_q263⟩
  | 8, _, _, _, _ => ⟨bc_k264, bc_q264⟩
  | 9, _, _, _, _ => ⟨bc_k265, bc_q265⟩
  | 10, _, _, _, _ => ⟨bc_k266, bc_q266⟩
  | 11, _, _, _, _ => ⟨bc_k267, bc_q267⟩
  | 12, _, _, _, _ => ⟨bc_k268, bc_q268⟩
  | 13, _, _, _, _ => ⟨bc_k269, bc_q269⟩
  | 14, _, _, _, _ => ⟨bc_k270, bc_q270⟩
  | 15, _, _, _, _ => ⟨bc_k271, bc_q271⟩
  | n + 16, h, _, h2, _ => absurd h2 (by omega)
theorem bc_kc17 : ∀ i, i < 16 → 0 < 16 * 17 + i → 16 * 17 + i < 362 → ¬ (357 < 16 * 17 + i ∧ 16 * 17 + i < 361) → bc_ckM (16 * 17 + i) = true ∧ bc_cc (16 * 17 + i) ∈ bc_T
  | 0, _, _, _, _ => ⟨bc_k272, bc_q272⟩
  | 1, _, _, _, _ => ⟨bc_k273, bc_q273⟩
  | 2, _, _, _, _ => ⟨bc_k274, bc_q274⟩
  | 3, _, _, _, _ => ⟨bc_k275, bc_q275⟩
  | 4, _, _, _, _ => ⟨bc_k276, bc_q276⟩
  | 5, _, _, _, _ => ⟨bc_k277, bc_q277⟩
  | 6, _, _, _, _ => ⟨bc_k278, bc_q278⟩
  | 7, _, _, _, _ => ⟨bc_k279, bc_q279⟩
  | 8, _, _, _, _ => ⟨bc_k280, bc_q280⟩
  | 9, _, _, _, _ => ⟨bc_k281, bc_q281⟩
  | 10, _, _, _, _ => ⟨bc_k282, bc_q282⟩
  | 11, _, _, _, _ => ⟨bc_k283, bc_q283⟩
  | 12, _, _, _, _ => ⟨bc_k284, bc_q284⟩
  | 13, _, _, _, _ => ⟨bc_k285, bc_q285⟩
  | 14, _, _, _, _ => ⟨bc_k286, bc_q286⟩
  | 15, _, _, _, _ => ⟨bc_k287, bc_q287⟩
  | n + 16, h, _, h2, _ => absurd h2 (by omega)
theorem bc_kc18 : ∀ i, i < 16 → 0 < 16 * 18 + i → 16 * 18 + i < 362 → ¬ (357 < 16 * 18 + i ∧ 16 * 18 + i < 361) → bc_ckM (16 * 18 + i) = true ∧ bc_cc (16 * 18 + i) ∈ bc_T
  | 0, _, _, _, _ => ⟨bc_k288, bc_q288⟩
  | 1, _, _, _, _ => ⟨bc_k289, bc_q289⟩
  | 2, _, _, _, _ => ⟨bc_k290, bc_q290⟩
  | 3, _, _, _, _ => ⟨bc_k291, bc_q291⟩
  | 4, _, _, _, _ => ⟨bc_k292, bc_q292⟩
  | 5, _, _, _, _ => ⟨bc_k293, bc_q293⟩
  | 6, _, _, _, _ => ⟨bc_k294, bc_q294⟩
  | 7, _, _, _, _ => ⟨bc_k295, bc_q295⟩
  | 8, _, _, _, _ => ⟨bc_k296, bc_q296⟩
  | 9, _, _, _, _ => ⟨bc_k297, bc_q297⟩
  | 10, _, _, _, _ => ⟨bc_k298, bc_q298⟩
  | 11, _, _, _, _ => ⟨bc_k299, bc_q299⟩
  | 12, _, _, _, _ => ⟨bc_k300, bc_q300⟩
  | 13, _, _, _, _ => ⟨bc_k301, bc_q301⟩
  | 14, _, _, _, _ => ⟨bc_k302, bc_q302⟩
  | 15, _, _, _, _ => ⟨bc_k303, bc_q303⟩
  | n + 16, h, _, h2, _ => absurd h2 (by omega)
theorem bc_kc19 : ∀ i, i < 16 → 0 < 16 * 19 + i → 16 * 19 + i < 362 → ¬ (357 < 16 * 19 + i ∧ 16 * 19 + i < 361) → bc_ckM (16 * 19 + i) = true ∧ bc_cc (16 * 19 + i) ∈ bc_T
  | 0, _, _, _, _ => ⟨bc_k304, bc_q304⟩
  | 1, _, _, _, _ => ⟨bc_k305, bc_q305⟩
  | 2, _, _, _, _ => ⟨bc_k306, bc_q306⟩
  | 3, _, _, _, _ => ⟨bc_k307, bc_q307⟩
  | 4, _, _, _, _ => ⟨bc_k308, bc_q308⟩
  | 5, _, _, _, _ => ⟨bc_k309, bc_q309⟩
  | 6, _, _, _, _ => ⟨bc_k310, bc_q310⟩
  | 7, _, _, _, _ => ⟨bc_k311, bc_q311⟩
  | 8, _, _, _, _ => ⟨bc_k312, bc_q312⟩
  | 9, _, _, _, _ => ⟨bc_k313, bc_q313⟩
  | 10, _, _, _, _ => ⟨bc_k314, bc_q314⟩
  | 11, _, _, _, _ => ⟨bc_k315, bc_q315⟩
  | 12, _, _, _, _ => ⟨bc_k316, bc_q316⟩
  | 13, _, _, _, _ => ⟨bc_k317, bc_q317⟩
  | 14, _, _, _, _ => ⟨bc_k318, bc_q318⟩
  | 15, _, _, _, _ => ⟨bc_k319, bc_q319⟩
  | n + 16, h, _, h2, _ => absurd h2 (by omega)
theorem bc_kc20 : ∀ i, i < 16 → 0 < 16 * 20 + i → 16 * 20 + i < 362 → ¬ (357 < 16 * 20 + i ∧ 16 * 20 + i < 361) → bc_ckM (16 * 20 + i) = true ∧ bc_cc (16 * 20 + i) ∈ bc_T
  | 0, _, _, _, _ => ⟨bc_k320, bc_q320⟩
  | 1, _, _, _, _ => ⟨bc_k321, bc_q321⟩
  | 2, _, _, _, _ => ⟨bc_k322, bc_q322⟩
  | 3, _, _, _, _ => ⟨bc_k323, bc_q323⟩
  | 4, _, _, _, _ => ⟨bc_k324, bc_q324⟩
  | 5, _, _, _, _ => ⟨bc_k325, bc_q325⟩
  | 6, _, _, _, _ => ⟨bc_k326, bc_q326⟩
  | 7, _, _, _, _ => ⟨bc_k327, bc_q327⟩
  | 8, _, _, _, _ => ⟨bc_k328, bc_q328⟩
  | 9, _, _, _, _ => ⟨bc_k329, bc_q329⟩
  | 10, _, _, _, _ => ⟨bc_k330, bc_q330⟩
  | 11, _, _, _, _ => ⟨bc_k331, bc_q331⟩
  | 12, _, _, _, _ => ⟨bc_k332, bc_q332⟩
  | 13, _, _, _, _ => ⟨bc_k333, bc_q333⟩
  | 14, _, _, _, _ => ⟨bc_k334, bc_q334⟩
  | 15, _, _, _, _ => ⟨bc_k335, bc_q335⟩
  | n + 16, h, _, h2, _ => absurd h2 (by omega)
theorem bc_kc21 : ∀ i, i < 16 → 0 < 16 * 21 + i → 16 * 21 + i < 362 → ¬ (357 < 16 * 21 + i ∧ 16 * 21 + i < 361) → bc_ckM (16 * 21 + i) = true ∧ bc_cc (16 * 21 + i) ∈ bc_T
  | 0, _, _, _, _ => ⟨bc_k336, bc_q336⟩
  | 1, _, _, _, _ => ⟨bc_k337, bc_q337⟩
  | 2, _, _, _, _ => ⟨bc_k338, bc_q338⟩
  | 3, _, _, _, _ => ⟨bc_k339, bc_q339⟩
  | 4, _, _, _, _ => ⟨bc_k340, bc_q340⟩
  | 5, _, _, _, _ => ⟨bc_k341, bc_q341⟩
  | 6, _, _, _, _ => ⟨bc_k342, bc_q342⟩
  | 7, _, _, _, _ => ⟨bc_k343, bc_q343⟩
  | 8, _, _, _, _ => ⟨bc_k344, bc_q344⟩
  | 9, _, _, _, _ => ⟨bc_k345, bc_q345⟩
  | 10, _, _, _, _ => ⟨bc_k346, bc_q346⟩
  | 11, _, _, _, _ => ⟨bc_k347, bc_q347⟩
  | 12, _, _, _, _ => ⟨bc_k348, bc_q348⟩
  | 13, _, _, _, _ => ⟨bc_k349, bc_q349⟩
  | 14, _, _, _, _ => ⟨bc_k350, bc_q350⟩
  | 15, _, _, _, _ => ⟨bc_k351, bc_q351⟩
  | n + 16, h, _, h2, _ => absurd h2 (by omega)
theorem bc_kc22 : ∀ i, i < 16 → 0 < 16 * 22 + i → 16 * 22 + i < 362 → ¬ (357 < 16 * 22 + i ∧ 16 * 22 + i < 361) → bc_ckM (16 * 22 + i) = true ∧ bc_cc (16 * 22 + i) ∈ bc_T
  | 0, _, _, _, _ => ⟨bc_k352, bc_q352⟩
  | 1, _, _, _, _ => ⟨bc_k353, bc_q353⟩
  | 2, _, _, _, _ => ⟨bc_k354, bc_q354⟩
  | 3, _, _, _, _ => ⟨bc_k355, bc_q355⟩
  | 4, _, _, _, _ => ⟨bc_k356, bc_q356⟩
  | 5, _, _, _, _ => ⟨bc_k357, bc_q357⟩
  | 6, _, _, _, h => absurd (show 357 < 16 * 22 + 6 ∧ 16 * 22 + 6 < 361 by omega) h
  | 7, _, _, _, h => absurd (show 357 < 16 * 22 + 7 ∧ 16 * 22 + 7 < 361 by omega) h
  | 8, _, _, _, h => absurd (show 357 < 16 * 22 + 8 ∧ 16 * 22 + 8 < 361 by omega) h
  | 9, _, _, _, _ => ⟨bc_k361, bc_q361⟩
  | n + 10, h, _, h2, _ => absurd h2 (by omega)
theorem bc_kall : ∀ j, j < 23 → ∀ i, i < 16 → 0 < 16 * j + i → 16 * j + i < 362 → ¬ (357 < 16 * j + i ∧ 16 * j + i < 361) → bc_ckM (16 * j + i) = true ∧ bc_cc (16 * j + i) ∈ bc_T
  | 0, _ => bc_kc0
  | 1, _ => bc_kc1
  | 2, _ => bc_kc2
  | 3, _ => bc_kc3
  | 4, _ => bc_kc4
  | 5, _ => bc_kc5
  | 6, _ => bc_kc6
  | 7, _ => bc_kc7
  | 8, _ => bc_kc8
  | 9, _ => bc_kc9
  | 10, _ => bc_kc10
  | 11, _ => bc_kc11
  | 12, _ => bc_kc12
  | 13, _ => bc_kc13
  | 14, _ => bc_kc14
  | 15, _ => bc_kc15
  | 16, _ => bc_kc16
  | 17, _ => bc_kc17
  | 18, _ => bc_kc18
  | 19, _ => bc_kc19
  | 20, _ => bc_kc20
  | 21, _ => bc_kc21
  | 22, _ => bc_kc22
  | n + 23, h => absurd h (by omega)
theorem bc_hall : ∀ n, (0 < n ∧ n < 362) → ¬ (357 < n ∧ n < 361) → bc_ckM n = true ∧ bc_cc n ∈ bc_T := by
  intro n h0 h1
  have h := bc_kall (n / 16) (by omega) (n % 16) (by omega) (by omega) (by omega) (by omega)
  rwa [show 16 * (n / 16) + n % 16 = n by omega] at h

theorem bc_k0 : bc_ckM 0 = true := by decide +kernel
theorem bc_k1 : bc_ckM 1 = true := by decide +kernel
theorem bc_k2 : bc_ckM 2 = true := by decide +kernel
theorem bc_k3 : bc_ckM 3 = true := by decide +kernel
theorem bc_k4 : bc_ckM 4 = true := by decide +kernel
theorem bc_k5 : bc_ckM 5 = true := by decide +kernel
theorem bc_k6 : bc_ckM 6 = true := by decide +kernel
theorem bc_k7 : bc_ckM 7 = true := by decide +kernel
theorem bc_k8 : bc_ckM 8 = true := by decide +kernel
theorem bc_k9 : bc_ckM 9 = true := by decide +kernel
theorem bc_k10 : bc_ckM 10 = true := by decide +kernel
theorem bc_k11 : bc_ckM 11 = true := by decide +kernel
theorem bc_k12 : bc_ckM 12 = true := by decide +kernel
theorem bc_k13 : bc_ckM 13 = true := by decide +kernel
theorem bc_k14 : bc_ckM 14 = true := by decide +kernel
theorem bc_k15 : bc_ckM 15 = true := by decide +kernel
theorem bc_k16 : bc_ckM 16 = true := by decide +kernel
theorem bc_k17 : bc_ckM 17 = true := by decide +kernel
theorem bc_k18 : bc_ckM 18 = true := by decide +kernel
theorem bc_k19 : bc_ckM 19 = true := by decide +kernel
theorem bc_k20 : bc_ckM 20 = true := by decide +kernel
theorem bc_k21 : bc_ckM 21 = true := by decide +kernel
theorem bc_k22 : bc_ckM 22 = true := by decide +kernel
theorem bc_k23 : bc_ckM 23 = true := by decide +kernel
theorem bc_k24 : bc_ckM 24 = true := by decide +kernel
theorem bc_k25 : bc_ckM 25 = true := by decide +kernel
theorem bc_k26 : bc_ckM 26 = true := by decide +kernel
theorem bc_k27 : bc_ckM 27 = true := by decide +kernel
theorem bc_k28 : bc_ckM 28 = true := by decide +kernel
theorem bc_k29 : bc_ckM 29 = true := by decide +kernel
theorem bc_k30 : bc_ckM 30 = true := by decide +kernel
theorem bc_k31 : bc_ckM 31 = true := by decide +kernel
theorem bc_k32 : bc_ckM 32 = true := by decide +kernel
theorem bc_k33 : bc_ckM 33 = true := by decide +kernel
theorem bc_k34 : bc_ckM 34 = true := by decide +kernel
theorem bc_k35 : bc_ckM 35 = true := by decide +kernel
theorem bc_k36 : bc_ckM 36 = true := by decide +kernel
theorem bc_k37 : bc_ckM 37 = true := by decide +kernel
theorem bc_k38 : bc_ckM 38 = true := by decide +kernel
theorem bc_k39 : bc_ckM 39 = true := by decide +kernel
theorem bc_k40 : bc_ckM 40 = true := by decide +kernel
theorem bc_k41 : bc_ckM 41 = true := by decide +kernel
theorem bc_k42 : bc_ckM 42 = true := by decide +kernel
theorem bc_k43 : bc_ckM 43 = true := by decide +kernel
theorem bc_k44 : bc_ckM 44 = true := by decide +kernel
theorem bc_k45 : bc_ckM 45 = true := by decide +kernel
theorem bc_k46 : bc_ckM 46 = true := by decide +kernel
theorem bc_k47 : bc_ckM 47 = true := by decide +kernel
theorem bc_k48 : bc_ckM 48 = true := by decide +kernel
theorem bc_k49 : bc_ckM 49 = true := by decide +kernel
theorem bc_k50 : bc_ckM 50 = true := by decide +kernel
theorem bc_k51 : bc_ckM 51 = true := by decide +kernel
theorem bc_k52 : bc_ckM 52 = true := by decide +kernel
theorem bc_k53 : bc_ckM 53 = true := by decide +kernel
theorem bc_k54 : bc_ckM 54 = true := by decide +kernel
theorem bc_k55 : bc_ckM 55 = true := by decide +kernel
theorem bc_k56 : bc_ckM 56 = true := by decide +kernel
theorem bc_k57 : bc_ckM 57 = true := by decide +kernel
theorem bc_k58 : bc_ckM 58 = true := by decide +kernel
theorem bc_k59 : bc_ckM 59 = true := by decide +kernel
theorem bc_k60 : bc_ckM 60 = true := by decide +kernel
theorem bc_k61 : bc_ckM 61 = true := by decide +kernel
theorem bc_k62 : bc_ckM 62 = true := by decide +kernel
theorem bc_k63 : bc_ckM 63 = true := by decide +kernel
theorem bc_k64 : bc_ckM 64 = true := by decide +kernel
theorem bc_k65 : bc_ckM 65 = true := by decide +kernel
theorem bc_k66 : bc_ckM 66 = true := by decide +kernel
theorem bc_k67 : bc_ckM 67 = true := by decide +kernel
theorem bc_k68 : bc_ckM 68 = true := by decide +kernel
theorem bc_k69 : bc_ckM 69 = true := by decide +kernel
theorem bc_k70 : bc_ckM 70 = true := by decide +kernel
theorem bc_k71 : bc_ckM 71 = true := by decide +kernel
theorem bc_k72 : bc_ckM 72 = true := by decide +kernel
theorem bc_k73 : bc_ckM 73 = true := by decide +kernel
theorem bc_k74 : bc_ckM 74 = true := by decide +kernel
theorem bc_k75 : bc_ckM 75 = true := by decide +kernel
theorem bc_k76 : bc_ckM 76 = true := by decide +kernel
theorem bc_k77 : bc_ckM 77 = true := by decide +kernel
theorem bc_k78 : bc_ckM 78 = true := by decide +kernel
theorem bc_k79 : bc_ckM 79 = true := by decide +kernel
theorem bc_k80 : bc_ckM 80 = true := by decide +kernel
theorem bc_k81 : bc_ckM 81 = true := by decide +kernel
theorem bc_k82 : bc_ckM 82 = true := by decide +kernel
theorem bc_k83 : bc_ckM 83 = true := by decide +kernel
theorem bc_k84 : bc_ckM 84 = true := by decide +kernel
theorem bc_k85 : bc_ckM 85 = true := by decide +kernel
theorem bc_k86 : bc_ckM 86 = true := by decide +kernel
theorem bc_k87 : bc_ckM 87 = true := by decide +kernel
theorem bc_k88 : bc_ckM 88 = true := by decide +kernel
theorem bc_k89 : bc_ckM 89 = true := by decide +kernel
theorem bc_k90 : bc_ckM 90 = true := by decide +kernel
theorem bc_k91 : bc_ckM 91 = true := by decide +kernel
theorem bc_k92 : bc_ckM 92 = true := by decide +kernel
theorem bc_k93 : bc_ckM 93 = true := by decide +kernel
theorem bc_k94 : bc_ckM 94 = true := by decide +kernel
theorem bc_k95 : bc_ckM 95 = true := by decide +kernel
theorem bc_k96 : bc_ckM 96 = true := by decide +kernel
theorem bc_k97 : bc_ckM 97 = true := by decide +kernel
theorem bc_k98 : bc_ckM 98 = true := by decide +kernel
theorem bc_k99 : bc_ckM 99 = true := by decide +kernel
theorem bc_k100 : bc_ckM 100 = true := by decide +kernel
theorem bc_k101 : bc_ckM 101 = true := by decide +kernel
theorem bc_k102 : bc_ckM 102 = true := by decide +kernel
theorem bc_k103 : bc_ckM 103 = true := by decide +kernel
theorem bc_k104 : bc_ckM 104 = true := by decide +kernel
theorem bc_k105 : bc_ckM 105 = true := by decide +kernel
theorem bc_k106 : bc_ckM 106 = true := by decide +kernel
theorem bc_k107 : bc_ckM 107 = true := by decide +kernel
theorem bc_k108 : bc_ckM 108 = true := by decide +kernel
theorem bc_k109 : bc_ckM 109 = true := by decide +kernel
theorem bc_k110 : bc_ckM 110 = true := by decide +kernel
theorem bc_k111 : bc_ckM 111 = true := by decide +kernel
theorem bc_k112 : bc_ckM 112 = true := by decide +kernel
theorem bc_k113 : bc_ckM 113 = true := by decide +kernel
theorem bc_k114 : bc_ckM 114 = true := by decide +kernel
theorem bc_k115 : bc_ckM 115 = true := by decide +kernel
theorem bc_k116 : bc_ckM 116 = true := by decide +kernel
theorem bc_k117 : bc_ckM 117 = true := by decide +kernel
theorem bc_k118 : bc_ckM 118 = true := by decide +kernel
theorem bc_k119 : bc_ckM 119 = true := by decide +kernel
theorem bc_k120 : bc_ckM 120 = true := by decide +kernel
theorem bc_k121 : bc_ckM 121 = true := by decide +kernel
theorem bc_k122 : bc_ckM 122 = true := by decide +kernel
theorem bc_k123 : bc_ckM 123 = true := by decide +kernel
theorem bc_k124 : bc_ckM 124 = true := by decide +kernel
theorem bc_k125 : bc_ckM 125 = true := by decide +kernel
theorem bc_k126 : bc_ckM 126 = true := by decide +kernel
theorem bc_k127 : bc_ckM 127 = true := by decide +kernel
theorem bc_k128 : bc_ckM 128 = true := by decide +kernel
theorem bc_k129 : bc_ckM 129 = true := by decide +kernel
theorem bc_k130 : bc_ckM 130 = true := by decide +kernel
theorem bc_k131 : bc_ckM 131 = true := by decide +kernel
theorem bc_k132 : bc_ckM 132 = true := by decide +kernel
theorem bc_k133 : bc_ckM 133 = true := by decide +kernel
theorem bc_k134 : bc_ckM 134 = true := by decide +kernel
theorem bc_k135 : bc_ckM 135 = true := by decide +kernel
theorem bc_k136 : bc_ckM 136 = true := by decide +kernel
theorem bc_k137 : bc_ckM 137 = true := by decide +kernel
theorem bc_k138 : bc_ckM 138 = true := by decide +kernel
theorem bc_k139 : bc_ckM 139 = true := by decide +kernel
theorem bc_k140 : bc_ckM 140 = true := by decide +kernel
theorem bc_k141 : bc_ckM 141 = true := by decide +kernel
theorem bc_k142 : bc_ckM 142 = true := by decide +kernel
theorem bc_k143 : bc_ckM 143 = true := by decide +kernel
theorem bc_k144 : bc_ckM 144 = true := by decide +kernel
theorem bc_k145 : bc_ckM 145 = true := by decide +kernel
theorem bc_k146 : bc_ckM 146 = true := by decide +kernel
theorem bc_k147 : bc_ckM 147 = true := by decide +kernel
theorem bc_k148 : bc_ckM 148 = true := by decide +kernel
theorem bc_k149 : bc_ckM 149 = true := by decide +kernel
theorem bc_k150 : bc_ckM 150 = true := by decide +kernel
theorem bc_k151 : bc_ckM 151 = true := by decide +kernel
theorem bc_k152 : bc_ckM 152 = true := by decide +kernel
theorem bc_k153 : bc_ckM 153 = true := by decide +kernel
theorem bc_k154 : bc_ckM 154 = true := by decide +kernel
theorem bc_k155 : bc_ckM 155 = true := by decide +kernel
theorem bc_k156 : bc_ckM 156 = true := by decide +kernel
theorem bc_k157 : bc_ckM 157 = true := by decide +kernel
theorem bc_k158 : bc_ckM 158 = true := by decide +kernel
theorem bc_k159 : bc_ckM 159 = true := by decide +kernel
theorem bc_k160 : bc_ckM 160 = true := by decide +kernel
theorem bc_k161 : bc_ckM 161 = true := by decide +kernel
theorem bc_k162 : bc_ckM 162 = true := by decide +kernel
theorem bc_k163 : bc_ckM 163 = true := by decide +kernel
theorem bc_k164 : bc_ckM 164 = true := by decide +kernel
theorem bc_k165 : bc_ckM 165 = true := by decide +kernel
theorem bc_k166 : bc_ckM 166 = true := by decide +kernel
theorem bc_k167 : bc_ckM 167 = true := by decide +kernel
theorem bc_k168 : bc_ckM 168 = true := by decide +kernel
theorem bc_k169 : bc_ckM 169 = true := by decide +kernel
theorem bc_k170 : bc_ckM 170 = true := by decide +kernel
theorem bc_k171 : bc_ckM 171 = true := by decide +kernel
theorem bc_k172 : bc_ckM 172 = true := by decide +kernel
theorem bc_k173 : bc_ckM 173 = true := by decide +kernel
theorem bc_k174 : bc_ckM 174 = true := by decide +kernel
theorem bc_k175 : bc_ckM 175 = true := by decide +kernel
theorem bc_k176 : bc_ckM 176 = true := by decide +kernel
theorem bc_k177 : bc_ckM 177 = true := by decide +kernel
theorem bc_k178 : bc_ckM 178 = true := by decide +kernel
theorem bc_k179 : bc_ckM 179 = true := by decide +kernel
theorem bc_k180 : bc_ckM 180 = true := by decide +kernel
theorem bc_k181 : bc_ckM 181 = true := by decide +kernel
theorem bc_k182 : bc_ckM 182 = true := by decide +kernel
theorem bc_k183 : bc_ckM 183 = true := by decide +kernel
theorem bc_k184 : bc_ckM 184 = true := by decide +kernel
theorem bc_k185 : bc_ckM 185 = true := by decide +kernel
theorem bc_k186 : bc_ckM 186 = true := by decide +kernel
theorem bc_k187 : bc_ckM 187 = true := by decide +kernel
theorem bc_k188 : bc_ckM 188 = true := by decide +kernel
theorem bc_k189 : bc_ckM 189 = true := by decide +kernel
theorem bc_k190 : bc_ckM 190 = true := by decide +kernel
theorem bc_k191 : bc_ckM 191 = true := by decide +kernel
theorem bc_k192 : bc_ckM 192 = true := by decide +kernel
theorem bc_k193 : bc_ckM 193 = true := by decide +kernel
theorem bc_k194 : bc_ckM 194 = true := by decide +kernel
theorem bc_k195 : bc_ckM 195 = true := by decide +kernel
theorem bc_k196 : bc_ckM 196 = true := by decide +kernel
theorem bc_k197 : bc_ckM 197 = true := by decide +kernel
theorem bc_k198 : bc_ckM 198 = true := by decide +kernel
theorem bc_k199 : bc_ckM 199 = true := by decide +kernel
theorem bc_k200 : bc_ckM 200 = true := by decide +kernel
theorem bc_k201 : bc_ckM 201 = true := by decide +kernel
theorem bc_k202 : bc_ckM 202 = true := by decide +kernel
theorem bc_k203 : bc_ckM 203 = true := by decide +kernel
theorem bc_k204 : bc_ckM 204 = true := by decide +kernel
theorem bc_k205 : bc_ckM 205 = true := by decide +kernel
theorem bc_k206 : bc_ckM 206 = true := by decide +kernel
theorem bc_k207 : bc_ckM 207 = true := by decide +kernel
theorem bc_k208 : bc_ckM 208 = true := by decide +kernel
theorem bc_k209 : bc_ckM 209 = true := by decide +kernel
theorem bc_k210 : bc_ckM 210 = true := by decide +kernel
theorem bc_k211 : bc_ckM 211 = true := by decide +kernel
theorem bc_k212 : bc_ckM 212 = true := by decide +kernel
theorem bc_k213 : bc_ckM 213 = true := by decide +kernel
theorem bc_k214 : bc_ckM 214 = true := by decide +kernel
theorem bc_k215 : bc_ckM 215 = true := by decide +kernel
theorem bc_k216 : bc_ckM 216 = true := by decide +kernel
theorem bc_k217 : bc_ckM 217 = true := by decide +kernel
theorem bc_k218 : bc_ckM 218 = true := by decide +kernel
theorem bc_k219 : bc_ckM 219 = true := by decide +kernel
theorem bc_k220 : bc_ckM 220 = true := by decide +kernel
theorem bc_k221 : bc_ckM 221 = true := by decide +kernel
theorem bc_k222 : bc_ckM 222 = true := by decide +kernel
theorem bc_k223 : bc_ckM 223 = true := by decide +kernel
theorem bc_k224 : bc_ckM 224 = true := by decide +kernel
theorem bc_k225 : bc_ckM 225 = true := by decide +kernel
theorem bc_k226 : bc_ckM 226 = true := by decide +kernel
theorem bc_k227 : bc_ckM 227 = true := by decide +kernel
theorem bc_k228 : bc_ckM 228 = true := by decide +kernel
theorem bc_k229 : bc_ckM 229 = true := by decide +kernel
theorem bc_k230 : bc_ckM 230 = true := by decide +kernel
theorem bc_k231 : bc_ckM 231 = true := by decide +kernel
theorem bc_k232 : bc_ckM 232 = true := by decide +kernel
theorem bc_k233 : bc_ckM 233 = true := by decide +kernel
theorem bc_k234 : bc_ckM 234 = true := by decide +kernel
theorem bc_k235 : bc_ckM 235 = true := by decide +kernel
theorem bc_k236 : bc_ckM 236 = true := by decide +kernel
theorem bc_k237 : bc_ckM 237 = true := by decide +kernel
theorem bc_k238 : bc_ckM 238 = true := by decide +kernel
theorem bc_k239 : bc_ckM 239 = true := by decide +kernel
theorem bc_k240 : bc_ckM 240 = true := by decide +kernel
theorem bc_k241 : bc_ckM 241 = true := by decide +kernel
theorem bc_k242 : bc_ckM 242 = true := by decide +kernel
theorem bc_k243 : bc_ckM 243 = true := by decide +kernel
theorem bc_k244 : bc_ckM 244 = true := by decide +kernel
theorem bc_k245 : bc_ckM 245 = true := by decide +kernel
theorem bc_k246 : bc_ckM 246 = true := by decide +kernel
theorem bc_k247 : bc_ckM 247 = true := by decide +kernel
theorem bc_k248 : bc_ckM 248 = true := by decide +kernel
theorem bc_k249 : bc_ckM 249 = true := by decide +kernel
theorem bc_k250 : bc_ckM 250 = true := by decide +kernel
theorem bc_k251 : bc_ckM 251 = true := by decide +kernel
theorem bc_k252 : bc_ckM 252 = true := by decide +kernel
theorem bc_k253 : bc_ckM 253 = true := by decide +kernel
theorem bc_k254 : bc_ckM 254 = true := by decide +kernel
theorem bc_k255 : bc_ckM 255 = true := by decide +kernel
theorem bc_k256 : bc_ckM 256 = true := by decide +kernel
theorem bc_k257 : bc_ckM 257 = true := by decide +kernel
theorem bc_k258 : bc_ckM 258 = true := by decide +kernel
theorem bc_k259 : bc_ckM 259 = true := by decide +kernel
theorem bc_k260 : bc_ckM 260 = true := by decide +kernel
theorem bc_k261 : bc_ckM 261 = true := by decide +kernel
theorem bc_k262 : bc_ckM 262 = true := by decide +kernel
theorem bc_k263 : bc_ckM 263 = true := by decide +kernel
theorem bc_k264 : bc_ckM 264 = true := by decide +kernel
theorem bc_k265 : bc_ckM 265 = true := by decide +kernel
theorem bc_k266 : bc_ckM 266 = true := by decide +kernel
theorem bc_k267 : bc_ckM 267 = true := by decide +kernel
theorem bc_k268 : bc_ckM 268 = true := by decide +kernel
theorem bc_k269 : bc_ckM 269 = true := by decide +kernel
theorem bc_k270 : bc_ckM 270 = true := by decide +kernel
theorem bc_k271 : bc_ckM 271 = true := by decide +kernel
theorem bc_k272 : bc_ckM 272 = true := by decide +kernel
theorem bc_k273 : bc_ckM 273 = true := by decide +kernel
theorem bc_k274 : bc_ckM 274 = true := by decide +kernel
theorem bc_k275 : bc_ckM 275 = true := by decide +kernel
theorem bc_k276 : bc_ckM 276 = true := by decide +kernel
theorem bc_k277 : bc_ckM 277 = true := by decide +kernel
theorem bc_k278 : bc_ckM 278 = true := by decide +kernel
theorem bc_k279 : bc_ckM 279 = true := by decide +kernel
theorem bc_k280 : bc_ckM 280 = true := by decide +kernel
theorem bc_k281 : bc_ckM 281 = true := by decide +kernel
theorem bc_k282 : bc_ckM 282 = true := by decide +kernel
theorem bc_k283 : bc_ckM 283 = true := by decide +kernel
theorem bc_k284 : bc_ckM 284 = true := by decide +kernel
theorem bc_k285 : bc_ckM 285 = true := by decide +kernel
theorem bc_k286 : bc_ckM 286 = true := by decide +kernel
theorem bc_k287 : bc_ckM 287 = true := by decide +kernel
theorem bc_k288 : bc_ckM 288 = true := by decide +kernel
theorem bc_k289 : bc_ckM 289 = true := by decide +kernel
theorem bc_k290 : bc_ckM 290 = true := by decide +kernel
theorem bc_k291 : bc_ckM 291 = true := by decide +kernel
theorem bc_k292 : bc_ckM 292 = true := by decide +kernel
theorem bc_k293 : bc_ckM 293 = true := by decide +kernel
theorem bc_k294 : bc_ckM 294 = true := by decide +kernel
theorem bc_k295 : bc_ckM 295 = true := by decide +kernel
theorem bc_k296 : bc_ckM 296 = true := by decide +kernel
theorem bc_k297 : bc_ckM 297 = true := by decide +kernel
theorem bc_k298 : bc_ckM 298 = true := by decide +kernel
theorem bc_k299 : bc_ckM 299 = true := by decide +kernel
theorem bc_k300 : bc_ckM 300 = true := by decide +kernel
theorem bc_k301 : bc_ckM 301 = true := by decide +kernel
theorem bc_k302 : bc_ckM 302 = true := by decide +kernel
theorem bc_k303 : bc_ckM 303 = true := by decide +kernel
theorem bc_k304 : bc_ckM 304 = true := by decide +kernel
theorem bc_k305 : bc_ckM 305 = true := by decide +kernel
theorem bc_k306 : bc_ckM 306 = true := by decide +kernel
theorem bc_k307 : bc_ckM 307 = true := by decide +kernel
theorem bc_k308 : bc_ckM 308 = true := by decide +kernel
theorem bc_k309 : bc_ckM 309 = true := by decide +kernel
theorem bc_k310 : bc_ckM 310 = true := by decide +kernel
theorem bc_k311 : bc_ckM 311 = true := by decide +kernel
theorem bc_k312 : bc_ckM 312 = true := by decide +kernel
theorem bc_k313 : bc_ckM 313 = true := by decide +kernel
theorem bc_k314 : bc_ckM 314 = true := by decide +kernel
theorem bc_k315 : bc_ckM 315 = true := by decide +kernel
theorem bc_k316 : bc_ckM 316 = true := by decide +kernel
theorem bc_k317 : bc_ckM 317 = true := by decide +kernel
theorem bc_k318 : bc_ckM 318 = true := by decide +kernel
theorem bc_k319 : bc_ckM 319 = true := by decide +kernel
theorem bc_k320 : bc_ckM 320 = true := by decide +kernel
theorem bc_k321 : bc_ckM 321 = true := by decide +kernel
theorem bc_k322 : bc_ckM 322 = true := by decide +kernel
theorem bc_k323 : bc_ckM 323 = true := by decide +kernel
theorem bc_k324 : bc_ckM 324 = true := by decide +kernel
theorem bc_k325 : bc_ckM 325 = true := by decide +kernel
theorem bc_k326 : bc_ckM 326 = true := by decide +kernel
theorem bc_k327 : bc_ckM 327 = true := by decide +kernel
theorem bc_k328 : bc_ckM 328 = true := by decide +kernel
theorem bc_k329 : bc_ckM 329 = true := by decide +kernel
theorem bc_k330 : bc_ckM 330 = true := by decide +kernel
theorem bc_k331 : bc_ckM 331 = true := by decide +kernel
theorem bc_k332 : bc_ckM 332 = true := by decide +kernel
theorem bc_k333 : bc_ckM 333 = true := by decide +kernel
theorem bc_k334 : bc_ckM 334 = true := by decide +kernel
theorem bc_k335 : bc_ckM 335 = true := by decide +kernel
theorem bc_k336 : bc_ckM 336 = true := by decide +kernel
theorem bc_k337 : bc_ckM 337 = true := by decide +kernel
theorem bc_k338 : bc_ckM 338 = true := by decide +kernel
theorem bc_k339 : bc_ckM 339 = true := by decide +kernel
theorem bc_k340 : bc_ckM 340 = true := by decide +kernel
theorem bc_k341 : bc_ckM 341 = true := by decide +kernel
theorem bc_k342 : bc_ckM 342 = true := by decide +kernel
theorem bc_k343 : bc_ckM 343 = true := by decide +kernel
theorem bc_k344 : bc_ckM 344 = true := by decide +kernel
theorem bc_k345 : bc_ckM 345 = true := by decide +kernel
theorem bc_k346 : bc_ckM 346 = true := by decide +kernel
theorem bc_k347 : bc_ckM 347 = true := by decide +kernel
theorem bc_k348 : bc_ckM 348 = true := by decide +kernel
theorem bc_k349 : bc_ckM 349 = true := by decide +kernel
theorem bc_k350 : bc_ckM 350 = true := by decide +kernel
theorem bc_k351 : bc_ckM 351 = true := by decide +kernel
theorem bc_k352 : bc_ckM 352 = true := by decide +kernel
theorem bc_k353 : bc_ckM 353 = true := by decide +kernel
theorem bc_k354 : bc_ckM 354 = true := by decide +kernel
theorem bc_k355 : bc_ckM 355 = true := by decide +kernel
theorem bc_k356 : bc_ckM 356 = true := by decide +kernel
theorem bc_k357 : bc_ckM 357 = true := by decide +kernel
theorem bc_k358 : bc_ckM 358 = true := by decide +kernel
theorem bc_k359 : bc_ckM 359 = true := by decide +kernel
theorem bc_k360 : bc_ckM 360 = true := by decide +kernel
theorem bc_k361 : bc_ckM 361 = true := by decide +kernel
theorem bc_kc0 : ∀ i, i < 16 → 16 * 0 + i < 362 → bc_ckM (16 * 0 + i) = true
  | 0, _, _ => bc_k0
  | 1, _, _ => bc_k1
  | 2, _, _ => bc_k2
  | 3, _, _ => bc_k3
  | 4, _, _ => bc_k4
  | 5, _, _ => bc_k5
  | 6, _, _ => bc_k6
  | 7, _, _ => bc_k7
  | 8, _, _ => bc_k8
  | 9, _, _ => bc_k9
  | 10, _, _ => bc_k10
  | 11, _, _ => bc_k11
  | 12, _, _ => bc_k12
  | 13, _, _ => bc_k13
  | 14, _, _ => bc_k14
  | 15, _, _ => bc_k15
  | n + 16, h, _ => absurd h (by omega)
theorem bc_kc1 : ∀ i, i < 16 → 16 * 1 + i < 362 → bc_ckM (16 * 1 + i) = true
  | 0, _, _ => bc_k16
  | 1, _, _ => bc_k17
  | 2, _, _ => bc_k18
  | 3, _, _ => bc_k19
  | 4, _, _ => bc_k20
  | 5, _, _ => bc_k21
  | 6, _, _ => bc_k22
  | 7, _, _ => bc_k23
  | 8, _, _ => bc_k24
  | 9, _, _ => bc_k25
  | 10, _, _ => bc_k26
  | 11, _, _ => bc_k27
  | 12, _, _ => bc_k28
  | 13, _, _ => bc_k29
  | 14, _, _ => bc_k30
  | 15, _, _ => bc_k31
  | n + 16, h, _ => absurd h (by omega)
theorem bc_kc2 : ∀ i, i < 16 → 16 * 2 + i < 362 → bc_ckM (16 * 2 + i) = true
  | 0, _, _ => bc_k32
  | 1, _, _ => bc_k33
  | 2, _, _ => bc_k34
  | 3, _, _ => bc_k35
  | 4, _, _ => bc_k36
  | 5, _, _ => bc_k37
  | 6, _, _ => bc_k38
  | 7, _, _ => bc_k39
  | 8, _, _ => bc_k40
  | 9, _, _ => bc_k41
  | 10, _, _ => bc_k42
  | 11, _, _ => bc_k43
  | 12, _, _ => bc_k44
  | 13, _, _ => bc_k45
  | 14, _, _ => bc_k46
  | 15, _, _ => bc_k47
  | n + 16, h, _ => absurd h (by omega)
theorem bc_kc3 : ∀ i, i < 16 → 16 * 3 + i < 362 → bc_ckM (16 * 3 + i) = true
  | 0, _, _ => bc_k48
  | 1, _, _ => bc_k49
  | 2, _, _ => bc_k50
  | 3, _, _ => bc_k51
  | 4, _, _ => bc_k52
  | 5, _, _ => bc_k53
  | 6, _, _ => bc_k54
  | 7, _, _ => bc_k55
  | 8, _, _ => bc_k56
  | 9, _, _ => bc_k57
  | 10, _, _ => bc_k58
  | 11, _, _ => bc_k59
  | 12, _, _ => bc_k60
  | 13, _, _ => bc_k61
  | 14, _, _ => bc_k62
  | 15, _, _ => bc_k63
  | n + 16, h, _ => absurd h (by omega)
theorem bc_kc4 : ∀ i, i < 16 → 16 * 4 + i < 362 → bc_ckM (16 * 4 + i) = true
  | 0, _, _ => bc_k64
  | 1, _, _ => bc_k65
  | 2, _, _ => bc_k66
  | 3, _, _ => bc_k67
  | 4, _, _ => bc_k68
  | 5, _, _ => bc_k69
  | 6, _, _ => bc_k70
  | 7, _, _ => bc_k71
  | 8, _, _ => bc_k72
  | 9, _, _ => bc_k73
  | 10, _, _ => bc_k74
  | 11, _, _ => bc_k75
  | 12, _, _ => bc_k76
  | 13, _, _ => bc_k77
  | 14, _, _ => bc_k78
  | 15, _, _ => bc_k79
  | n + 16, h, _ => absurd h (by omega)
theorem bc_kc5 : ∀ i, i < 16 → 16 * 5 + i < 362 → bc_ckM (16 * 5 + i) = true
  | 0, _, _ => bc_k80
  | 1, _, _ => bc_k81
  | 2, _, _ => bc_k82
  | 3, _, _ => bc_k83
  | 4, _, _ => bc_k84
  | 5, _, _ => bc_k85
  | 6, _, _ => bc_k86
  | 7, _, _ => bc_k87
  | 8, _, _ => bc_k88
  | 9, _, _ => bc_k89
  | 10, _, _ => bc_k90
  | 11, _, _ => bc_k91
  | 12, _, _ => bc_k92
  | 13, _, _ => bc_k93
  | 14, _, _ => bc_k94
  | 15, _, _ => bc_k95
  | n + 16, h, _ => absurd h (by omega)
theorem bc_kc6 : ∀ i, i < 16 → 16 * 6 + i < 362 → bc_ckM (16 * 6 + i) = true
  | 0, _, _ => bc_k96
  | 1, _, _ => bc_k97
  | 2, _, _ => bc_k98
  | 3, _, _ => bc_k99
  | 4, _, _ => bc_k100
  | 5, _, _ => bc_k101
  | 6, _, _ => bc_k102
  | 7, _, _ => bc_k103
  | 8, _, _ => bc_k104
  | 9, _, _ => bc_k105
  | 10, _, _ => bc_k106
  | 11, _, _ => bc_k107
  | 12, _, _ => bc_k108
  | 13, _, _ => bc_k109
  | 14, _, _ => bc_k110
  | 15, _, _ => bc_k111
  | n + 16, h, _ => absurd h (by omega)
theorem bc_kc7 : ∀ i, i < 16 → 16 * 7 + i < 362 → bc_ckM (16 * 7 + i) = true
  | 0, _, _ => bc_k112
  | 1, _, _ => bc_k113
  | 2, _, _ => bc_k114
  | 3, _, _ => bc_k115
  | 4, _, _ => bc_k116
  | 5, _, _ => bc_k117
  | 6, _, _ => bc_k118
  | 7, _, _ => bc_k119
  | 8, _, _ => bc_k120
  | 9, _, _ => bc_k121
  | 10, _, _ => bc_k122
  | 11, _, _ => bc_k123
  | 12, _, _ => bc_k124
  | 13, _, _ => bc_k125
  | 14, _, _ => bc_k126
  | 15, _, _ => bc_k127
  | n + 16, h, _ => absurd h (by omega)
theorem bc_kc8 : ∀ i, i < 16 → 16 * 8 + i < 362 → bc_ckM (16 * 8 + i) = true
  | 0, _, _ => bc_k128
  | 1, _, _ => bc_k129
  | 2, _, _ => bc_k130
  | 3, _, _ => bc_k131
  | 4, _, _ => bc_k132
  | 5, _, _ => bc_k133
  | 6, _, _ => bc_k134
  | 7, _, _ => bc_k135
  | 8, _, _ => bc_k136
  | 9, _, _ => bc_k137
  | 10, _, _ => bc_k138
  | 11, _, _ => bc_k139
  | 12, _, _ => bc_k140
  | 13, _, _ => bc_k141
  | 14, _, _ => bc_k142
  | 15, _, _ => bc_k143
  | n + 16, h, _ => absurd h (by omega)
theorem bc_kc9 : ∀ i, i < 16 → 16 * 9 + i < 362 → bc_ckM (16 * 9 + i) = true
  | 0, _, _ => bc_k144
  | 1, _, _ => bc_k145
  | 2, _, _ => bc_k146
  | 3, _, _ => bc_k147
  | 4, _, _ => bc_k148
  | 5, _, _ => bc_k149
  | 6, _, _ => bc_k150
  | 7, _, _ => bc_k151
  | 8, _, _ => bc_k152
  | 9, _, _ => bc_k153
  | 10, _, _ => bc_k154
  | 11, _, _ => bc_k155
  | 12, _, _ => bc_k156
  | 13, _, _ => bc_k157
  | 14, _, _ => bc_k158
  | 15, _, _ => bc_k159
  | n + 16, h, _ => absurd h (by omega)
theorem bc_kc10 : ∀ i, i < 16 → 16 * 10 + i < 362 → bc_ckM (16 * 10 + i) = true
  | 0, _, _ => bc_k160
  | 1, _, _ => bc_k161
  | 2, _, _ => bc_k162
  | 3, _, _ => bc_k163
  | 4, _, _ => bc_k164
  | 5, _, _ => bc_k165
  | 6, _, _ => bc_k166
  | 7, _, _ => bc_k167
  | 8, _, _ => bc_k168
  | 9, _, _ => bc_k169
  | 10, _, _ => bc_k170
  | 11, _, _ => bc_k171
  | 12, _, _ => bc_k172
  | 13, _, _ => bc_k173
  | 14, _, _ => bc_k174
  | 15, _, _ => bc_k175
  | n + 16, h, _ => absurd h (by omega)
theorem bc_kc11 : ∀ i, i < 16 → 16 * 11 + i < 362 → bc_ckM (16 * 11 + i) = true
  | 0, _, _ => bc_k176
  | 1, _, _ => bc_k177
  | 2, _, _ => bc_k178
  | 3, _, _ => bc_k179
  | 4, _, _ => bc_k180
  | 5, _, _ => bc_k181
  | 6, _, _ => bc_k182
  | 7, _, _ => bc_k183
  | 8, _, _ => bc_k184
  | 9, _, _ => bc_k185
  | 10, _, _ => bc_k186
  | 11, _, _ => bc_k187
  | 12, _, _ => bc_k188
  | 13, _, _ => bc_k189
  | 14, _, _ => bc_k190
  | 15, _, _ => bc_k191
  | n + 16, h, _ => absurd h (by omega)
theorem bc_kc12 : ∀ i, i < 16 → 16 * 12 + i < 362 → bc_ckM (16 * 12 + i) = true
  | 0, _, _ => bc_k192
  | 1, _, _ => bc_k193
  | 2, _, _ => bc_k194
  | 3, _, _ => bc_k195
  | 4, _, _ => bc_k196
  | 5, _, _ => bc_k197
  | 6, _, _ => bc_k198
  | 7, _, _ => bc_k199
  | 8, _, _ => bc_k200
  | 9, _, _ => bc_k201
  | 10, _, _ => bc_k202
  | 11, _, _ => bc_k203
  | 12, _, _ => bc_k204
  | 13, _, _ => bc_k205
  | 14, _, _ => bc_k206
  | 15, _, _ => bc_k207
  | n + 16, h, _ => absurd h (by omega)
theorem bc_kc13 : ∀ i, i < 16 → 16 * 13 + i < 362 → bc_ckM (16 * 13 + i) = true
  | 0, _, _ => bc_k208
  | 1, _, _ => bc_k209
  | 2, _, _ => bc_k210
  | 3, _, _ => bc_k211
  | 4, _, _ => bc_k212
  | 5, _, _ => bc_k213
  | 6, _, _ => bc_k214
  | 7, _, _ => bc_k215
  | 8, _, _ => bc_k216
  | 9, _, _ => bc_k217
  | 10, _, _ => bc_k218
  | 11, _, _ => bc_k219
  | 12, _, _ => bc_k220
  | 13, _, _ => bc_k221
  | 14, _, _ => bc_k222
  | 15, _, _ => bc_k223
  | n + 16, h, _ => absurd h (by omega)
theorem bc_kc14 : ∀ i, i < 16 → 16 * 14 + i < 362 → bc_ckM (16 * 14 + i) = true
  | 0, _, _ => bc_k224
  | 1, _, _ => bc_k225
  | 2, _, _ => bc_k226
  | 3, _, _ => bc_k227
  | 4, _, _ => bc_k228
  | 5, _, _ => bc_k229
  | 6, _, _ => bc_k230
  | 7, _, _ => bc_k231
  | 8, _, _ => bc_k232
  | 9, _, _ => bc_k233
  | 10, _, _ => bc_k234
  | 11, _, _ => bc_k235
  | 12, _, _ => bc_k236
  | 13, _, _ => bc_k237
  | 14, _, _ => bc_k238
  | 15, _, _ => bc_k239
  | n + 16, h, _ => absurd h (by omega)
theorem bc_kc15 : ∀ i, i < 16 → 16 * 15 + i < 362 → bc_ckM (16 * 15 + i) = true
  | 0, _, _ => bc_k240
  | 1, _, _ => bc_k241
  | 2, _, _ => bc_k242
  | 3, _, _ => bc_k243
  | 4, _, _ => bc_k244
  | 5, _, _ => bc_k245
  | 6, _, _ => bc_k246
  | 7, _, _ => bc_k247
  | 8, _, _ => bc_k248
  | 9, _, _ => bc_k249
  | 10, _, _ => bc_k250
  | 11, _, _ => bc_k251
  | 12, _, _ => bc_k252
  | 13, _, _ => bc_k253
  | 14, _, _ => bc_k254
  | 15, _, _ => bc_k255
  | n + 16, h, _ => absurd h (by omega)
theorem bc_kc16 : ∀ i, i < 16 → 16 * 16 + i < 362 → bc_ckM (16 * 16 + i) = true
  | 0, _, _ => bc_k256
  | 1, _, _ => bc_k257
  | 2, _, _ => bc_k258
  | 3, _, _ => bc_k259
  | 4, _, _ => bc_k260
  | 5, _, _ => bc_k261
  | 6, _, _ => bc_k262
  | 7, _, _ => bc_k263
  | 8, _, _ => bc_k264
  | 9, _, _ => bc_k265
  | 10, _, _ => bc_k266
  | 11, _, _ => bc_k267
  | 12, _, _ => bc_k268
  | 13, _, _ => bc_k269
  | 14, _, _ => bc_k270
  | 15, _, _ => bc_k271
  | n + 16, h, _ => absurd h (by omega)
theorem bc_kc17 : ∀ i, i < 16 → 16 * 17 + i < 362 → bc_ckM (16 * 17 + i) = true
  | 0, _, _ => bc_k272
  | 1, _, _ => bc_k273
  | 2, _, _ => bc_k274
  | 3, _, _ => bc_k275
  | 4, _, _ => bc_k276
  | 5, _, _ => bc_k277
  | 6, _, _ => bc_k278
  | 7, _, _ => bc_k279
  | 8, _, _ => bc_k280
  | 9, _, _ => bc_k281
  | 10, _, _ => bc_k282
  | 11, _, _ => bc_k283
  | 12, _, _ => bc_k284
  | 13, _, _ => bc_k285
  | 14, _, _ => bc_k286
  | 15, _, _ => bc_k287
  | n + 16, h, _ => absurd h (by omega)
theorem bc_kc18 : ∀ i, i < 16 → 16 * 18 + i < 362 → bc_ckM (16 * 18 + i) = true
  | 0, _, _ => bc_k288
  | 1, _, _ => bc_k289
  | 2, _, _ => bc_k290
  | 3, _, _ => bc_k291
  | 4, _, _ => bc_k292
  | 5, _, _ => bc_k293
  | 6, _, _ => bc_k294
  | 7, _, _ => bc_k295
  | 8, _, _ => bc_k296
  | 9, _, _ => bc_k297
  | 10, _, _ => bc_k298
  | 11, _, _ => bc_k299
  | 12, _, _ => bc_k300
  | 13, _, _ => bc_k301
  | 14, _, _ => bc_k302
  | 15, _, _ => bc_k303
  | n + 16, h, _ => absurd h (by omega)
theorem bc_kc19 : ∀ i, i < 16 → 16 * 19 + i < 362 → bc_ckM (16 * 19 + i) = true
  | 0, _, _ => bc_k304
  | 1, _, _ => bc_k305
  | 2, _, _ => bc_k306
  | 3, _, _ => bc_k307
  | 4, _, _ => bc_k308
  | 5, _, _ => bc_k309
  | 6, _, _ => bc_k310
  | 7, _, _ => bc_k311
  | 8, _, _ => bc_k312
  | 9, _, _ => bc_k313
  | 10, _, _ => bc_k314
  | 11, _, _ => bc_k315
  | 12, _, _ => bc_k316
  | 13, _, _ => bc_k317
  | 14, _, _ => bc_k318
  | 15, _, _ => bc_k319
  | n + 16, h, _ => absurd h (by omega)
theorem bc_kc20 : ∀ i, i < 16 → 16 * 20 + i < 362 → bc_ckM (16 * 20 + i) = true
  | 0, _, _ => bc_k320
  | 1, _, _ => bc_k321
  | 2, _, _ => bc_k322
  | 3, _, _ => bc_k323
  | 4, _, _ => bc_k324
  | 5, _, _ => bc_k325
  | 6, _, _ => bc_k326
  | 7, _, _ => bc_k327
  | 8, _, _ => bc_k328
  | 9, _, _ => bc_k329
  | 10, _, _ => bc_k330
  | 11, _, _ => bc_k331
  | 12, _, _ => bc_k332
  | 13, _, _ => bc_k333
  | 14, _, _ => bc_k334
  | 15, _, _ => bc_k335
  | n + 16, h, _ => absurd h (by omega)
theorem bc_kc21 : ∀ i, i < 16 → 16 * 21 + i < 362 → bc_ckM (16 * 21 + i) = true
  | 0, _, _ => bc_k336
  | 1, _, _ => bc_k337
  | 2, _, _ => bc_k338
  | 3, _, _ => bc_k339
  | 4, _, _ => bc_k340
  | 5, _, _ => bc_k341
  | 6, _, _ => bc_k342
  | 7, _, _ => bc_k343
  | 8, _, _ => bc_k344
  | 9, _, _ => bc_k345
  | 10, _, _ => bc_k346
  | 11, _, _ => bc_k347
  | 12, _, _ => bc_k348
  | 13, _, _ => bc_k349
  | 14, _, _ => bc_k350
  | 15, _, _ => bc_k351
  | n + 16, h, _ => absurd h (by omega)
theorem bc_kc22 : ∀ i, i < 16 → 16 * 22 + i < 362 → bc_ckM (16 * 22 + i) = true
  | 0, _, _ => bc_k352
  | 1, _, _ => bc_k353
  | 2, _, _ => bc_k354
  | 3, _, _ => bc_k355
  | 4, _, _ => bc_k356
  | 5, _, _ => bc_k357
  | 6, _, _ => bc_k358
  | 7, _, _ => bc_k359
  | 8, _, _ => bc_k360
  | 9, _, _ => bc_k361
  | n + 10, _, h => absurd h (by omega)
theorem bc_kall : ∀ j, j < 23 → ∀ i, i < 16 → 16 * j + i < 362 → bc_ckM (16 * j + i) = true
  | 0, _ => bc_kc0
  | 1, _ => bc_kc1
  | 2, _ => bc_kc2
  | 3, _ => bc_kc3
  | 4, _ => bc_kc4
  | 5, _ => bc_kc5
  | 6, _ => bc_kc6
  | 7, _ => bc_kc7
  | 8, _ => bc_kc8
  | 9, _ => bc_kc9
  | 10, _ => bc_kc10
  | 11, _ => bc_kc11
  | 12, _ => bc_kc12
  | 13, _ => bc_kc13
  | 14, _ => bc_kc14
  | 15, _ => bc_kc15
  | 16, _ => bc_kc16
  | 17, _ => bc_kc17
  | 18, _ => bc_kc18
  | 19, _ => bc_kc19
  | 20, _ => bc_kc20
  | 21, _ => bc_kc21
  | 22, _ => bc_kc22
  | n + 23, h => absurd h (by omega)
def bc_ids : List Nat := [1000, 4072, 4118, 5027, 5020, 5045, 1068, 2203, 4098, 4226, 4238, 5007, 1062, 2199, 4094, 3044, 3040, 3060, 4075, 4003, 3177, 3220, 3080, 3204, 3174, 3170, 3184, 4000, 4018, 4026, 4035, 1238, 3112, 5156, 3134, 3138, 1128, 2215, 4108, 3088, 4172, 4180, 4189, 4205, 4201, 4197, 4217, 197, 5103, 5108, 5112, 5120, 5116, 5127, 5134, 5138, 163, 2195, 3006, 3032, 3056, 3010, 3024, 3028, 3048, 3068, 3076, 3084, 3092, 3096, 3125, 3130, 3143, 3146, 3154, 3150, 1019, 4147, 4143, 4152, 4158, 5055, 5060, 5064, 5073, 5068, 53, 2187, 2219, 3002, 3036, 3014, 3064, 3100, 3019, 2226, 2230, 2234, 2238, 35, 2113, 2141, 2172, 2145, 2125, 2164, 2149, 2152, 2176, 1086, 2210, 4103, 3052, 3072, 3166, 4131, 3104, 3108, 27, 2098, 2102, 2106, 2110, 2133, 2156, 2168, 2183, 2191, 3120, 3158, 3162, 3188, 3196, 3208, 3216, 3224, 3232, 3236, 4014, 4022, 4031, 4039, 4043, 4047, 4052, 4057, 4064, 4068, 4082, 4086, 4090, 4114, 4123, 4127, 4135, 4164, 4168, 4176, 4185, 4193, 4213, 4222, 4230, 4234, 5003, 5011, 5037, 5041, 5051, 5077, 5081, 5095, 5099, 5144, 5148, 5152, 5161, 3116, 2160, 2129, 2121, 2116, 4060, 3212, 3192, 3200, 3228, 2137, 4139, 5015, 5091, 5087, 5084, 5166, 5171, 6087, 6091, 6095, 6106, 6166, 7038, 7130, 8191, 6102, 6117, 6099, 6114, 6110, 6121, 6126, 7158, 6130, 6134, 6154, 6157, 6160, 6150, 7030, 6175, 6181, 6146, 7026, 6232, 6185, 6197, 6209, 6205, 6138, 7034, 6216, 7007, 7014, 6220, 6201, 6193, 6228, 7000, 6224, 6189, 6213, 6236, 7004, 7011, 7018, 7022, 6170, 6142, 7054, 7058, 7062, 7050, 7046, 7042, 7118, 7102, 7110, 7138, 7230, 7174, 7074, 7094, 7142, 7150, 7090, 7086, 7082, 7126, 7070, 7078, 7066, 7098, 7106, 7114, 7122, 7134, 7146, 7170, 7166, 7162, 7154, 7186, 7182, 7178, 7195, 7191, 7204, 7199, 7208, 7213, 7217, 7222, 7226, 7234, 8054, 8007, 8011, 8002, 7239, 8015, 8019, 8023, 8027, 8035, 8031, 8039, 8062, 8058, 8051, 8047, 8043, 8066, 8078, 8074, 8070, 8082, 8086, 8099, 8095, 8090, 8103, 8112, 8107, 8116, 8125, 8120, 8129, 8137, 8146, 8142, 8133, 8150, 8158, 8154, 8175, 8179, 8171, 8167, 8162, 8183, 8187, 8195, 8224, 8212, 8216, 8220, 8208, 8229, 8233, 8204, 8199, 8237, 9001, 9009, 9005, 9013, 4007, 5030, 4208, 3180, 2222, 2206]
def bc_cws : List Jvm.Cond := (List.range 361).map (fun n => bc_cc (n + 1))
theorem bc_cwl : bc_ids.map bc_lk = bc_cws.map some := by decide +kernel
theorem bc_cwg : bc_cws.all goodWord = true := by decide +kernel
theorem bc_hall : ∀ n, 0 < n → n < 362 → bc_ckM n = true ∧ bc_cc n ∈ bc_T := by
  intro n h0 h1
  constructor
  · have h := bc_kall (n / 16) (by omega) (n % 16) (by omega) (by omega)
    rwa [show 16 * (n / 16) + n % 16 = n by omega] at h
  · have hm : bc_cc n ∈ bc_cws := List.mem_map.mpr ⟨n - 1, List.mem_range.mpr (by omega), by rw [show n - 1 + 1 = n by omega]⟩
    exact List.mem_filter.mpr ⟨bc_lks _ _ bc_cwl _ hm, List.all_eq_true.mp bc_cwg _ hm⟩

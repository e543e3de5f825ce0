/-! words of the constructors (printed by wip/whole/geninit.py) -/
set_option maxRecDepth 100000 in
theorem w_120 : Cond.methodLink RX11 1 Lib.objectInit ∈ gtb := mg 120 rfl rfl
set_option maxRecDepth 100000 in
theorem w_121 : Cond.instanceMethod Lib.objectInit ∈ gtb := mg 121 rfl rfl
set_option maxRecDepth 100000 in
theorem w_122 : Cond.code Lib.objectInit ⟨#[0xb1]⟩ 1 none ∈ gtb := mg 122 rfl rfl
set_option maxRecDepth 100000 in
theorem w_123 : Cond.classLink RX11 7 RX9 ∈ gtb := mg 123 rfl rfl
set_option maxRecDepth 100000 in
theorem w_124 : Cond.instantiable RX9 6 ∈ gtb := mg 124 rfl rfl
set_option maxRecDepth 100000 in
theorem w_125 : Cond.methodLink RX11 9 yX9_init ∈ gtb := mg 125 rfl rfl
set_option maxRecDepth 100000 in
theorem w_126 : Cond.instanceMethod yX9_init ∈ gtb := mg 126 rfl rfl
set_option maxRecDepth 100000 in
theorem w_127 : Cond.code yX9_init cX9_init 2 none ∈ gtb := mg 127 rfl rfl
set_option maxRecDepth 100000 in
theorem w_128 : Cond.methodLink RX9 3 Lib.objectInit ∈ gtb := mg 128 rfl rfl
set_option maxRecDepth 100000 in
theorem w_129 : Cond.classLink RX9 21 RX8 ∈ gtb := mg 129 rfl rfl
set_option maxRecDepth 100000 in
theorem w_131 : Cond.instantiable RX8 2 ∈ gtb := mg 131 rfl rfl
set_option maxRecDepth 100000 in
theorem w_132 : Cond.methodLink RX9 30 yX8_init ∈ gtb := mg 132 rfl rfl
set_option maxRecDepth 100000 in
theorem w_133 : Cond.instanceMethod yX8_init ∈ gtb := mg 133 rfl rfl
set_option maxRecDepth 100000 in
theorem w_134 : Cond.code yX8_init cX8_init 2 none ∈ gtb := mg 134 rfl rfl
set_option maxRecDepth 100000 in
theorem w_135 : Cond.methodLink RX8 3 Lib.objectInit ∈ gtb := mg 135 rfl rfl
set_option maxRecDepth 100000 in
theorem w_136 : Cond.methodLink RX8 9 Lib.Math.max.name ∈ gtb := mg 136 rfl rfl
set_option maxRecDepth 100000 in
theorem w_153 : Cond.arrayClass .int ∈ gtb := mg 153 rfl rfl
set_option maxRecDepth 100000 in
theorem w_154 : Cond.arrayClass .byte ∈ gtb := mg 154 rfl rfl
set_option maxRecDepth 100000 in
theorem w_178 : Cond.classLink RX11 16 RX3 ∈ gtb := mg 178 rfl rfl
set_option maxRecDepth 100000 in
theorem w_179 : Cond.instantiable RX3 11 ∈ gtb := mg 179 rfl rfl
set_option maxRecDepth 100000 in
theorem w_180 : Cond.methodLink RX11 18 yX3_init ∈ gtb := mg 180 rfl rfl
set_option maxRecDepth 100000 in
theorem w_181 : Cond.instanceMethod yX3_init ∈ gtb := mg 181 rfl rfl
set_option maxRecDepth 100000 in
theorem w_182 : Cond.code yX3_init cX3_init 2 none ∈ gtb := mg 182 rfl rfl
set_option maxRecDepth 100000 in
theorem w_183 : Cond.methodLink RX3 3 Lib.objectInit ∈ gtb := mg 183 rfl rfl
set_option maxRecDepth 100000 in
theorem w_184 : Cond.classLink RX3 9 RX2 ∈ gtb := mg 184 rfl rfl
set_option maxRecDepth 100000 in
theorem w_186 : Cond.instantiable RX2 11 ∈ gtb := mg 186 rfl rfl
set_option maxRecDepth 100000 in
theorem w_188 : Cond.instanceMethod yX2_init ∈ gtb := mg 188 rfl rfl
set_option maxRecDepth 100000 in
theorem w_189 : Cond.code yX2_init cX2_init 1 none ∈ gtb := mg 189 rfl rfl
set_option maxRecDepth 100000 in
theorem w_190 : Cond.methodLink RX2 3 Lib.objectInit ∈ gtb := mg 190 rfl rfl
set_option maxRecDepth 100000 in
theorem w_191 : Cond.classLink RX2 9 RX8 ∈ gtb := mg 191 rfl rfl
set_option maxRecDepth 100000 in
theorem w_192 : Cond.methodLink RX2 11 yX8_init ∈ gtb := mg 192 rfl rfl
set_option maxRecDepth 100000 in
theorem w_193 : Cond.fieldLink RX2 14 "ShownLibrary$Saying" "left" "LShownLibrary$Term;" ∈ gtb := mg 193 rfl rfl
set_option maxRecDepth 100000 in
theorem w_201 : Cond.fieldLink RX2 20 "ShownLibrary$Saying" "right" "LShownLibrary$Term;" ∈ gtb := mg 201 rfl rfl
set_option maxRecDepth 100000 in
theorem w_249 : Cond.arrayClass .short ∈ gtb := mg 249 rfl rfl
set_option maxRecDepth 100000 in
theorem w_290 : Cond.classLink RX11 23 RX7 ∈ gtb := mg 290 rfl rfl
set_option maxRecDepth 100000 in
theorem w_291 : Cond.instantiable RX7 10 ∈ gtb := mg 291 rfl rfl
set_option maxRecDepth 100000 in
theorem w_292 : Cond.methodLink RX11 25 yX7_init ∈ gtb := mg 292 rfl rfl
set_option maxRecDepth 100000 in
theorem w_293 : Cond.instanceMethod yX7_init ∈ gtb := mg 293 rfl rfl
set_option maxRecDepth 100000 in
theorem w_294 : Cond.code yX7_init cX7_init 3 none ∈ gtb := mg 294 rfl rfl
set_option maxRecDepth 100000 in
theorem w_295 : Cond.methodLink RX7 3 Lib.objectInit ∈ gtb := mg 295 rfl rfl
set_option maxRecDepth 100000 in
theorem w_296 : Cond.classLink RX7 15 RX8 ∈ gtb := mg 296 rfl rfl
set_option maxRecDepth 100000 in
theorem w_297 : Cond.methodLink RX7 17 yX8_init ∈ gtb := mg 297 rfl rfl
set_option maxRecDepth 100000 in
theorem w_331 : Cond.classLink RX11 32 RX6 ∈ gtb := mg 331 rfl rfl
set_option maxRecDepth 100000 in
theorem w_332 : Cond.instantiable RX6 7 ∈ gtb := mg 332 rfl rfl
set_option maxRecDepth 100000 in
theorem w_333 : Cond.methodLink RX11 34 yX6_init ∈ gtb := mg 333 rfl rfl
set_option maxRecDepth 100000 in
theorem w_334 : Cond.instanceMethod yX6_init ∈ gtb := mg 334 rfl rfl
set_option maxRecDepth 100000 in
theorem w_335 : Cond.code yX6_init cX6_init 3 none ∈ gtb := mg 335 rfl rfl
set_option maxRecDepth 100000 in
theorem w_336 : Cond.methodLink RX6 3 Lib.objectInit ∈ gtb := mg 336 rfl rfl
set_option maxRecDepth 100000 in
theorem w_337 : Cond.classLink RX6 9 RX8 ∈ gtb := mg 337 rfl rfl
set_option maxRecDepth 100000 in
theorem w_338 : Cond.methodLink RX6 11 yX8_init ∈ gtb := mg 338 rfl rfl
set_option maxRecDepth 100000 in
theorem w_362 : Cond.classLink RX11 35 RX1 ∈ gtb := mg 362 rfl rfl
set_option maxRecDepth 100000 in
theorem w_363 : Cond.instantiable RX1 9 ∈ gtb := mg 363 rfl rfl
set_option maxRecDepth 100000 in
theorem w_364 : Cond.methodLink RX11 37 yX1_init ∈ gtb := mg 364 rfl rfl
set_option maxRecDepth 100000 in
theorem w_365 : Cond.instanceMethod yX1_init ∈ gtb := mg 365 rfl rfl
set_option maxRecDepth 100000 in
theorem w_366 : Cond.code yX1_init cX1_init 4 none ∈ gtb := mg 366 rfl rfl
set_option maxRecDepth 100000 in
theorem w_367 : Cond.methodLink RX1 3 Lib.objectInit ∈ gtb := mg 367 rfl rfl
set_option maxRecDepth 100000 in
theorem w_368 : Cond.classLink RX1 24 RX8 ∈ gtb := mg 368 rfl rfl
set_option maxRecDepth 100000 in
theorem w_369 : Cond.methodLink RX1 38 yX8_init ∈ gtb := mg 369 rfl rfl
set_option maxRecDepth 100000 in
theorem w_402 : Cond.classLink RX11 47 RX4 ∈ gtb := mg 402 rfl rfl
set_option maxRecDepth 100000 in
theorem w_403 : Cond.instantiable RX4 18 ∈ gtb := mg 403 rfl rfl
set_option maxRecDepth 100000 in
theorem w_404 : Cond.methodLink RX11 49 yX4_init ∈ gtb := mg 404 rfl rfl
set_option maxRecDepth 100000 in
theorem w_405 : Cond.instanceMethod yX4_init ∈ gtb := mg 405 rfl rfl
set_option maxRecDepth 100000 in
theorem w_406 : Cond.code yX4_init cX4_init 5 none ∈ gtb := mg 406 rfl rfl
set_option maxRecDepth 100000 in
theorem w_407 : Cond.methodLink RX4 3 Lib.objectInit ∈ gtb := mg 407 rfl rfl
set_option maxRecDepth 100000 in
theorem w_408 : Cond.classLink RX4 11 RX8 ∈ gtb := mg 408 rfl rfl
set_option maxRecDepth 100000 in
theorem w_409 : Cond.methodLink RX4 42 yX8_init ∈ gtb := mg 409 rfl rfl
set_option maxRecDepth 100000 in
theorem w_466 : Cond.classLink RX11 56 RX10 ∈ gtb := mg 466 rfl rfl
set_option maxRecDepth 100000 in
theorem w_467 : Cond.instantiable RX10 8 ∈ gtb := mg 467 rfl rfl
set_option maxRecDepth 100000 in
theorem w_468 : Cond.methodLink RX11 58 yX10_init ∈ gtb := mg 468 rfl rfl
set_option maxRecDepth 100000 in
theorem w_469 : Cond.instanceMethod yX10_init ∈ gtb := mg 469 rfl rfl
set_option maxRecDepth 100000 in
theorem w_470 : Cond.code yX10_init cX10_init 3 none ∈ gtb := mg 470 rfl rfl
set_option maxRecDepth 100000 in
theorem w_471 : Cond.methodLink RX10 3 Lib.objectInit ∈ gtb := mg 471 rfl rfl
set_option maxRecDepth 100000 in
theorem w_472 : Cond.classLink RX10 15 "[[I" ∈ gtb := mg 472 rfl rfl
set_option maxRecDepth 100000 in
theorem w_499 : Cond.classLink RX11 63 RX0 ∈ gtb := mg 499 rfl rfl
set_option maxRecDepth 100000 in
theorem w_500 : Cond.instantiable RX0 11 ∈ gtb := mg 500 rfl rfl
set_option maxRecDepth 100000 in
theorem w_501 : Cond.methodLink RX11 65 yX0_init ∈ gtb := mg 501 rfl rfl
set_option maxRecDepth 100000 in
theorem w_502 : Cond.instanceMethod yX0_init ∈ gtb := mg 502 rfl rfl
set_option maxRecDepth 100000 in
theorem w_503 : Cond.code yX0_init cX0_init 3 none ∈ gtb := mg 503 rfl rfl
set_option maxRecDepth 100000 in
theorem w_504 : Cond.methodLink RX0 3 Lib.objectInit ∈ gtb := mg 504 rfl rfl
set_option maxRecDepth 100000 in
theorem w_505 : Cond.classLink RX0 9 RX8 ∈ gtb := mg 505 rfl rfl
set_option maxRecDepth 100000 in
theorem w_506 : Cond.methodLink RX0 13 yX8_init ∈ gtb := mg 506 rfl rfl
set_option maxRecDepth 100000 in
theorem w_541 : Cond.classLink RX11 70 RX5 ∈ gtb := mg 541 rfl rfl
set_option maxRecDepth 100000 in
theorem w_542 : Cond.instantiable RX5 3 ∈ gtb := mg 542 rfl rfl
set_option maxRecDepth 100000 in
theorem w_543 : Cond.methodLink RX11 72 yX5_init ∈ gtb := mg 543 rfl rfl
set_option maxRecDepth 100000 in
theorem w_544 : Cond.instanceMethod yX5_init ∈ gtb := mg 544 rfl rfl
set_option maxRecDepth 100000 in
theorem w_545 : Cond.code yX5_init cX5_init 2 none ∈ gtb := mg 545 rfl rfl
set_option maxRecDepth 100000 in
theorem w_546 : Cond.methodLink RX5 3 Lib.objectInit ∈ gtb := mg 546 rfl rfl
set_option maxRecDepth 100000 in
theorem w_547 : Cond.classLink RX5 11 "[[I" ∈ gtb := mg 547 rfl rfl
set_option maxRecDepth 100000 in
theorem w_1237 : Cond.methodLink RX12 1 Lib.objectInit ∈ gtb := mg 1237 rfl rfl
set_option maxRecDepth 100000 in
theorem w_1488 : Cond.arrayClass .boolean ∈ gtb := mg 1488 rfl rfl

theorem ex_127 : excOk 127 131 "java/lang/IllegalArgumentException" := ⟨by decide +kernel, tw_359, tw_26, by decide +kernel, by decide +kernel, by decide +kernel, by decide +kernel⟩
theorem ex_294 : excOk 294 298 "java/lang/UnsupportedOperationException" := ⟨by decide +kernel, tw_759, tw_21, by decide +kernel, by decide +kernel, by decide +kernel, by decide +kernel⟩
theorem ex_345 : excOk 345 349 "java/lang/IndexOutOfBoundsException" := ⟨by decide +kernel, tw_474, tw_27, by decide +kernel, by decide +kernel, by decide +kernel, by decide +kernel⟩
theorem ex_372 : excOk 372 374 "java/lang/ArithmeticException" := ⟨by decide +kernel, tw_1061, tw_30, by decide +kernel, by decide +kernel, by decide +kernel, by decide +kernel⟩
theorem mm_414 : (414, "this is refused") ∈ sMsg := List.mem_of_getElem? (i := 0) rfl
theorem mm_396 : (396, "there is no such room") ∈ sMsg := List.mem_of_getElem? (i := 1) rfl
theorem mm_129 : (129, "no such number of a room") ∈ sMsg := List.mem_of_getElem? (i := 2) rfl
theorem mm_401 : (401, "there is no such echo") ∈ sMsg := List.mem_of_getElem? (i := 3) rfl
theorem mm_156 : (156, "no such number of an echo") ∈ sMsg := List.mem_of_getElem? (i := 4) rfl
theorem mm_406 : (406, "there is no such singer") ∈ sMsg := List.mem_of_getElem? (i := 5) rfl
theorem mm_182 : (182, "no such number of a singer") ∈ sMsg := List.mem_of_getElem? (i := 6) rfl
theorem mm_408 : (408, "the singer is outside") ∈ sMsg := List.mem_of_getElem? (i := 7) rfl
theorem mm_206 : (206, "there are no rooms") ∈ sMsg := List.mem_of_getElem? (i := 8) rfl
theorem mm_226 : (226, "the echo is not let") ∈ sMsg := List.mem_of_getElem? (i := 9) rfl
theorem mm_234 : (234, "no such place in the order of rooms") ∈ sMsg := List.mem_of_getElem? (i := 10) rfl
theorem mm_236 : (236, "no such order of singers") ∈ sMsg := List.mem_of_getElem? (i := 11) rfl
theorem mm_242 : (242, "no such place in the order of singers") ∈ sMsg := List.mem_of_getElem? (i := 12) rfl
theorem mm_248 : (248, "no such place in the order of echoes") ∈ sMsg := List.mem_of_getElem? (i := 13) rfl
theorem mm_288 : (288, "the text has a fault") ∈ sMsg := List.mem_of_getElem? (i := 14) rfl
theorem mm_296 : (296, "an order is refused") ∈ sMsg := List.mem_of_getElem? (i := 15) rfl
theorem mm_302 : (302, "no such depth") ∈ sMsg := List.mem_of_getElem? (i := 16) rfl
theorem mm_308 : (308, "nothing was refused") ∈ sMsg := List.mem_of_getElem? (i := 17) rfl
theorem mm_319 : (319, "there is no cause") ∈ sMsg := List.mem_of_getElem? (i := 18) rfl
theorem mm_347 : (347, "no such index in the line") ∈ sMsg := List.mem_of_getElem? (i := 19) rfl
theorem mm_370 : (370, "no such account") ∈ sMsg := List.mem_of_getElem? (i := 20) rfl
theorem mm_375 : (375, "there are no echoes") ∈ sMsg := List.mem_of_getElem? (i := 21) rfl

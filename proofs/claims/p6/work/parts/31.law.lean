theorem df10 : ∀ j, j < 10 → defaultValue (tyX11 j) = if fR 10 j then .null else .int 0 := by
  intro j hj
  rcases (show j = 0 ∨ j = 1 ∨ j = 2 ∨ j = 3 ∨ j = 4 ∨ j = 5 ∨ j = 6 ∨ j = 7 ∨ j = 8 ∨ j = 9 by omega) with rfl | rfl | rfl | rfl | rfl | rfl | rfl | rfl | rfl | rfl
  · rw [show fR 10 0 = true by decide +kernel]; rfl
  · rw [show fR 10 1 = false by decide +kernel]; rfl
  · rw [show fR 10 2 = false by decide +kernel]; rfl
  · rw [show fR 10 3 = true by decide +kernel]; rfl
  · rw [show fR 10 4 = true by decide +kernel]; rfl
  · rw [show fR 10 5 = true by decide +kernel]; rfl
  · rw [show fR 10 6 = true by decide +kernel]; rfl
  · rw [show fR 10 7 = true by decide +kernel]; rfl
  · rw [show fR 10 8 = true by decide +kernel]; rfl
  · rw [show fR 10 9 = false by decide +kernel]; rfl
theorem ic10 : Cond.instantiable RX11 10 ∈ wl := mW (mT1 (List.mem_of_getElem? (i := 23) (by decide +kernel))) rfl
theorem ii10 : Cond.initialized RX11 ∈ wl := mW (mT1 (List.mem_of_getElem? (i := 1) (by decide +kernel))) rfl
theorem nw_L_7 : FNW RL 7 10 10 := ⟨RX11, TX11, tyX11, rfl, by decide, inl10, tyX11_ok, mW (mT1 (List.mem_of_getElem? (i := 22) (by decide +kernel))) rfl, ic10, ii10, df10⟩
theorem yo_X11_init : yX11_init.cls ≠ "java/lang/invoke/MethodHandle" ∧ yX11_init.cls ≠ "java/lang/invoke/VarHandle" ∧ (parseMethodDescriptor yX11_init.desc).map (fun d => d.parameters.length) = some 0 := by decide +kernel
theorem co_X11_init : Cond.code yX11_init cX11_init 2 none ∈ wl := mW (mT1 (List.mem_of_getElem? (i := 26) rfl)) rfl
theorem in_X11_init : Cond.initialized yX11_init.cls ∈ wl := mW (mT1 (List.mem_of_getElem? (i := 1) (by decide +kernel))) rfl
theorem im_X11_init : Cond.instanceMethod yX11_init ∈ wl := mW (mT1 (List.mem_of_getElem? (i := 25) (by decide +kernel))) rfl
theorem lv_L_9 : LCo RL 9 yX11_init cX11_init 2 0 := ⟨rfl, yo_X11_init, Or.inl (mW (mT1 (List.mem_of_getElem? (i := 24) (by decide +kernel))) rfl), im_X11_init, in_X11_init, co_X11_init⟩
theorem df11 : ∀ j, j < 33 → defaultValue (tyX12 j) = if fR 11 j then .null else .int 0 := by
  intro j hj
  rcases (show j = 0 ∨ j = 1 ∨ j = 2 ∨ j = 3 ∨ j = 4 ∨ j = 5 ∨ j = 6 ∨ j = 7 ∨ j = 8 ∨ j = 9 ∨ j = 10 ∨ j = 11 ∨ j = 12 ∨ j = 13 ∨ j = 14 ∨ j = 15 ∨ j = 16 ∨ j = 17 ∨ j = 18 ∨ j = 19 ∨ j = 20 ∨ j = 21 ∨ j = 22 ∨ j = 23 ∨ j = 24 ∨ j = 25 ∨ j = 26 ∨ j = 27 ∨ j = 28 ∨ j = 29 ∨ j = 30 ∨ j = 31 ∨ j = 32 by omega) with rfl | rfl | rfl | rfl | rfl | rfl | rfl | rfl | rfl | rfl | rfl | rfl | rfl | rfl | rfl | rfl | rfl | rfl | rfl | rfl | rfl | rfl | rfl | rfl | rfl | rfl | rfl | rfl | rfl | rfl | rfl | rfl | rfl
  · rw [show fR 11 0 = false by decide +kernel]; rfl
  · rw [show fR 11 1 = true by decide +kernel]; rfl
  · rw [show fR 11 2 = false by decide +kernel]; rfl
  · rw [show fR 11 3 = true by decide +kernel]; rfl
  · rw [show fR 11 4 = false by decide +kernel]; rfl
  · rw [show fR 11 5 = true by decide +kernel]; rfl
  · rw [show fR 11 6 = true by decide +kernel]; rfl
  · rw [show fR 11 7 = true by decide +kernel]; rfl
  · rw [show fR 11 8 = true by decide +kernel]; rfl
  · rw [show fR 11 9 = true by decide +kernel]; rfl
  · rw [show fR 11 10 = false by decide +kernel]; rfl
  · rw [show fR 11 11 = false by decide +kernel]; rfl
  · rw [show fR 11 12 = false by decide +kernel]; rfl
  · rw [show fR 11 13 = false by decide +kernel]; rfl
  · rw [show fR 11 14 = false by decide +kernel]; rfl
  · rw [show fR 11 15 = false by decide +kernel]; rfl
  · rw [show fR 11 16 = false by decide +kernel]; rfl
  · rw [show fR 11 17 = true by decide +kernel]; rfl
  · rw [show fR 11 18 = true by decide +kernel]; rfl
  · rw [show fR 11 19 = true by decide +kernel]; rfl
  · rw [show fR 11 20 = false by decide +kernel]; rfl
  · rw [show fR 11 21 = false by decide +kernel]; rfl
  · rw [show fR 11 22 = false by decide +kernel]; rfl
  · rw [show fR 11 23 = true by decide +kernel]; rfl
  · rw [show fR 11 24 = true by decide +kernel]; rfl
  · rw [show fR 11 25 = false by decide +kernel]; rfl
  · rw [show fR 11 26 = false by decide +kernel]; rfl
  · rw [show fR 11 27 = true by decide +kernel]; rfl
  · rw [show fR 11 28 = true by decide +kernel]; rfl
  · rw [show fR 11 29 = true by decide +kernel]; rfl
  · rw [show fR 11 30 = true by decide +kernel]; rfl
  · rw [show fR 11 31 = true by decide +kernel]; rfl
  · rw [show fR 11 32 = true by decide +kernel]; rfl
theorem ic11 : Cond.instantiable RX12 33 ∈ wl := mW (mT5 (List.mem_of_getElem? (i := 73) (by decide +kernel))) rfl
theorem ii11 : Cond.initialized RX12 ∈ wl := mW (mT1 (List.mem_of_getElem? (i := 12) (by decide +kernel))) rfl
theorem nw_L_10 : FNW RL 10 11 33 := ⟨RX12, TX12, tyX12, rfl, by decide, inl11, tyX12_ok, mW (mT5 (List.mem_of_getElem? (i := 72) (by decide +kernel))) rfl, ic11, ii11, df11⟩
theorem yo_X12_init : yX12_init.cls ≠ "java/lang/invoke/MethodHandle" ∧ yX12_init.cls ≠ "java/lang/invoke/VarHandle" ∧ (parseMethodDescriptor yX12_init.desc).map (fun d => d.parameters.length) = some 0 := by decide +kernel
theorem co_X12_init : Cond.code yX12_init cX12_init 1 none ∈ wl := mW (mT5 (List.mem_of_getElem? (i := 76) rfl)) rfl
theorem in_X12_init : Cond.initialized yX12_init.cls ∈ wl := mW (mT1 (List.mem_of_getElem? (i := 12) (by decide +kernel))) rfl
theorem im_X12_init : Cond.instanceMethod yX12_init ∈ wl := mW (mT5 (List.mem_of_getElem? (i := 75) (by decide +kernel))) rfl
theorem lv_L_12 : LCo RL 12 yX12_init cX12_init 1 0 := ⟨rfl, yo_X12_init, Or.inl (mW (mT5 (List.mem_of_getElem? (i := 74) (by decide +kernel))) rfl), im_X12_init, in_X12_init, co_X12_init⟩
theorem yo_X11_feed : yX11_feed.cls ≠ "java/lang/invoke/MethodHandle" ∧ yX11_feed.cls ≠ "java/lang/invoke/VarHandle" ∧ (parseMethodDescriptor yX11_feed.desc).map (fun d => d.parameters.length) = some 5 := by decide +kernel
theorem co_X11_feed : Cond.code yX11_feed cX11_feed 6 (some .int) ∈ wl := mW (mT3 (List.mem_of_getElem? (i := 24) rfl)) rfl
theorem in_X11_feed : Cond.initialized yX11_feed.cls ∈ wl := mW (mT1 (List.mem_of_getElem? (i := 1) (by decide +kernel))) rfl
theorem im_X11_feed : Cond.instanceMethod yX11_feed ∈ wl := mW (mT3 (List.mem_of_getElem? (i := 22) (by decide +kernel))) rfl
theorem se_X11_feed : Cond.selects yX11_feed.cls yX11_feed yX11_feed ∈ wl := mW (mT3 (List.mem_of_getElem? (i := 23) (by decide +kernel))) rfl
theorem lv_L_13 : LV RL 13 yX11_feed cX11_feed 6 (some .int) 5 10 := ⟨⟨(RX11, TX11, 10), rfl, rfl⟩, yo_X11_feed, mW (mT3 (List.mem_of_getElem? (i := 21) (by decide +kernel))) rfl, im_X11_feed, se_X11_feed, in_X11_feed, co_X11_feed⟩
theorem yo_X12_feed : yX12_feed.cls ≠ "java/lang/invoke/MethodHandle" ∧ yX12_feed.cls ≠ "java/lang/invoke/VarHandle" ∧ (parseMethodDescriptor yX12_feed.desc).map (fun d => d.parameters.length) = some 5 := by decide +kernel
theorem co_X12_feed : Cond.code yX12_feed cX12_feed 6 (some .int) ∈ wl := mW (mT5 (List.mem_of_getElem? (i := 196) rfl)) rfl
theorem in_X12_feed : Cond.initialized yX12_feed.cls ∈ wl := mW (mT1 (List.mem_of_getElem? (i := 12) (by decide +kernel))) rfl
theorem im_X12_feed : Cond.instanceMethod yX12_feed ∈ wl := mW (mT5 (List.mem_of_getElem? (i := 194) (by decide +kernel))) rfl
theorem se_X12_feed : Cond.selects yX12_feed.cls yX12_feed yX12_feed ∈ wl := mW (mT5 (List.mem_of_getElem? (i := 195) (by decide +kernel))) rfl
theorem lv_L_17 : LV RL 17 yX12_feed cX12_feed 6 (some .int) 5 11 := ⟨⟨(RX12, TX12, 33), rfl, rfl⟩, yo_X12_feed, mW (mT5 (List.mem_of_getElem? (i := 193) (by decide +kernel))) rfl, im_X12_feed, se_X12_feed, in_X12_feed, co_X12_feed⟩
theorem yo_X11_back : yX11_back.cls ≠ "java/lang/invoke/MethodHandle" ∧ yX11_back.cls ≠ "java/lang/invoke/VarHandle" ∧ (parseMethodDescriptor yX11_back.desc).map (fun d => d.parameters.length) = some 1 := by decide +kernel
theorem co_X11_back : Cond.code yX11_back cX11_back 2 (some .int) ∈ wl := mW (mT3 (List.mem_of_getElem? (i := 32) rfl)) rfl
theorem in_X11_back : Cond.initialized yX11_back.cls ∈ wl := mW (mT1 (List.mem_of_getElem? (i := 1) (by decide +kernel))) rfl
theorem im_X11_back : Cond.instanceMethod yX11_back ∈ wl := mW (mT3 (List.mem_of_getElem? (i := 30) (by decide +kernel))) rfl
theorem se_X11_back : Cond.selects yX11_back.cls yX11_back yX11_back ∈ wl := mW (mT3 (List.mem_of_getElem? (i := 31) (by decide +kernel))) rfl
theorem lv_L_18 : LV RL 18 yX11_back cX11_back 2 (some .int) 1 10 := ⟨⟨(RX11, TX11, 10), rfl, rfl⟩, yo_X11_back, mW (mT3 (List.mem_of_getElem? (i := 29) (by decide +kernel))) rfl, im_X11_back, se_X11_back, in_X11_back, co_X11_back⟩
theorem yo_X12_back : yX12_back.cls ≠ "java/lang/invoke/MethodHandle" ∧ yX12_back.cls ≠ "java/lang/invoke/VarHandle" ∧ (parseMethodDescriptor yX12_back.desc).map (fun d => d.parameters.length) = some 1 := by decide +kernel
theorem co_X12_back : Cond.code yX12_back cX12_back 2 (some .int) ∈ wl := mW (mT5 (List.mem_of_getElem? (i := 204) rfl)) rfl
theorem in_X12_back : Cond.initialized yX12_back.cls ∈ wl := mW (mT1 (List.mem_of_getElem? (i := 12) (by decide +kernel))) rfl
theorem im_X12_back : Cond.instanceMethod yX12_back ∈ wl := mW (mT5 (List.mem_of_getElem? (i := 202) (by decide +kernel))) rfl
theorem se_X12_back : Cond.selects yX12_back.cls yX12_back yX12_back ∈ wl := mW (mT5 (List.mem_of_getElem? (i := 203) (by decide +kernel))) rfl
theorem lv_L_22 : LV RL 22 yX12_back cX12_back 2 (some .int) 1 11 := ⟨⟨(RX12, TX12, 33), rfl, rfl⟩, yo_X12_back, mW (mT5 (List.mem_of_getElem? (i := 201) (by decide +kernel))) rfl, im_X12_back, se_X12_back, in_X12_back, co_X12_back⟩
theorem yo_X11_read : yX11_read.cls ≠ "java/lang/invoke/MethodHandle" ∧ yX11_read.cls ≠ "java/lang/invoke/VarHandle" ∧ (parseMethodDescriptor yX11_read.desc).map (fun d => d.parameters.length) = some 0 := by decide +kernel
theorem co_X11_read : Cond.code yX11_read cX11_read 2 (some .int) ∈ wl := mW (mT3 (List.mem_of_getElem? (i := 36) rfl)) rfl
theorem in_X11_read : Cond.initialized yX11_read.cls ∈ wl := mW (mT1 (List.mem_of_getElem? (i := 1) (by decide +kernel))) rfl
theorem im_X11_read : Cond.instanceMethod yX11_read ∈ wl := mW (mT3 (List.mem_of_getElem? (i := 34) (by decide +kernel))) rfl
theorem se_X11_read : Cond.selects yX11_read.cls yX11_read yX11_read ∈ wl := mW (mT3 (List.mem_of_getElem? (i := 35) (by decide +kernel))) rfl
theorem lv_L_23 : LV RL 23 yX11_read cX11_read 2 (some .int) 0 10 := ⟨⟨(RX11, TX11, 10), rfl, rfl⟩, yo_X11_read, mW (mT3 (List.mem_of_getElem? (i := 33) (by decide +kernel))) rfl, im_X11_read, se_X11_read, in_X11_read, co_X11_read⟩
theorem yo_X12_read : yX12_read.cls ≠ "java/lang/invoke/MethodHandle" ∧ yX12_read.cls ≠ "java/lang/invoke/VarHandle" ∧ (parseMethodDescriptor yX12_read.desc).map (fun d => d.parameters.length) = some 0 := by decide +kernel
theorem co_X12_read : Cond.code yX12_read cX12_read 2 (some .int) ∈ wl := mW (mT5 (List.mem_of_getElem? (i := 208) rfl)) rfl
theorem in_X12_read : Cond.initialized yX12_read.cls ∈ wl := mW (mT1 (List.mem_of_getElem? (i := 12) (by decide +kernel))) rfl
theorem im_X12_read : Cond.instanceMethod yX12_read ∈ wl := mW (mT5 (List.mem_of_getElem? (i := 206) (by decide +kernel))) rfl
theorem se_X12_read : Cond.selects yX12_read.cls yX12_read yX12_read ∈ wl := mW (mT5 (List.mem_of_getElem? (i := 207) (by decide +kernel))) rfl
theorem lv_L_27 : LV RL 27 yX12_read cX12_read 2 (some .int) 0 11 := ⟨⟨(RX12, TX12, 33), rfl, rfl⟩, yo_X12_read, mW (mT5 (List.mem_of_getElem? (i := 205) (by decide +kernel))) rfl, im_X12_read, se_X12_read, in_X12_read, co_X12_read⟩
theorem yo_X11_place : yX11_place.cls ≠ "java/lang/invoke/MethodHandle" ∧ yX11_place.cls ≠ "java/lang/invoke/VarHandle" ∧ (parseMethodDescriptor yX11_place.desc).map (fun d => d.parameters.length) = some 0 := by decide +kernel
theorem co_X11_place : Cond.code yX11_place cX11_place 1 (some .int) ∈ wl := mW (mT4 (List.mem_of_getElem? (i := 22) rfl)) rfl
theorem in_X11_place : Cond.initialized yX11_place.cls ∈ wl := mW (mT1 (List.mem_of_getElem? (i := 1) (by decide +kernel))) rfl
theorem im_X11_place : Cond.instanceMethod yX11_place ∈ wl := mW (mT4 (List.mem_of_getElem? (i := 20) (by decide +kernel))) rfl
theorem se_X11_place : Cond.selects yX11_place.cls yX11_place yX11_place ∈ wl := mW (mT4 (List.mem_of_getElem? (i := 21) (by decide +kernel))) rfl
theorem lv_L_28 : LV RL 28 yX11_place cX11_place 1 (some .int) 0 10 := ⟨⟨(RX11, TX11, 10), rfl, rfl⟩, yo_X11_place, mW (mT4 (List.mem_of_getElem? (i := 19) (by decide +kernel))) rfl, im_X11_place, se_X11_place, in_X11_place, co_X11_place⟩
theorem yo_X12_place : yX12_place.cls ≠ "java/lang/invoke/MethodHandle" ∧ yX12_place.cls ≠ "java/lang/invoke/VarHandle" ∧ (parseMethodDescriptor yX12_place.desc).map (fun d => d.parameters.length) = some 0 := by decide +kernel
theorem co_X12_place : Cond.code yX12_place cX12_place 1 (some .int) ∈ wl := mW (mT6 (List.mem_of_getElem? (i := 61) rfl)) rfl
theorem in_X12_place : Cond.initialized yX12_place.cls ∈ wl := mW (mT1 (List.mem_of_getElem? (i := 12) (by decide +kernel))) rfl
theorem im_X12_place : Cond.instanceMethod yX12_place ∈ wl := mW (mT6 (List.mem_of_getElem? (i := 59) (by decide +kernel))) rfl
theorem se_X12_place : Cond.selects yX12_place.cls yX12_place yX12_place ∈ wl := mW (mT6 (List.mem_of_getElem? (i := 60) (by decide +kernel))) rfl
theorem lv_L_31 : LV RL 31 yX12_place cX12_place 1 (some .int) 0 11 := ⟨⟨(RX12, TX12, 33), rfl, rfl⟩, yo_X12_place, mW (mT6 (List.mem_of_getElem? (i := 58) (by decide +kernel))) rfl, im_X12_place, se_X12_place, in_X12_place, co_X12_place⟩
theorem yo_X11_press : yX11_press.cls ≠ "java/lang/invoke/MethodHandle" ∧ yX11_press.cls ≠ "java/lang/invoke/VarHandle" ∧ (parseMethodDescriptor yX11_press.desc).map (fun d => d.parameters.length) = some 2 := by decide +kernel
theorem co_X11_press : Cond.code yX11_press cX11_press 4 (some .boolean) ∈ wl := mW (mT4 (List.mem_of_getElem? (i := 26) rfl)) rfl
theorem in_X11_press : Cond.initialized yX11_press.cls ∈ wl := mW (mT1 (List.mem_of_getElem? (i := 1) (by decide +kernel))) rfl
theorem im_X11_press : Cond.instanceMethod yX11_press ∈ wl := mW (mT4 (List.mem_of_getElem? (i := 24) (by decide +kernel))) rfl
theorem se_X11_press : Cond.selects yX11_press.cls yX11_press yX11_press ∈ wl := mW (mT4 (List.mem_of_getElem? (i := 25) (by decide +kernel))) rfl
theorem lv_L_32 : LV RL 32 yX11_press cX11_press 4 (some .boolean) 2 10 := ⟨⟨(RX11, TX11, 10), rfl, rfl⟩, yo_X11_press, mW (mT4 (List.mem_of_getElem? (i := 23) (by decide +kernel))) rfl, im_X11_press, se_X11_press, in_X11_press, co_X11_press⟩
theorem yo_X12_press : yX12_press.cls ≠ "java/lang/invoke/MethodHandle" ∧ yX12_press.cls ≠ "java/lang/invoke/VarHandle" ∧ (parseMethodDescriptor yX12_press.desc).map (fun d => d.parameters.length) = some 2 := by decide +kernel
theorem co_X12_press : Cond.code yX12_press cX12_press 3 (some .boolean) ∈ wl := mW (mT6 (List.mem_of_getElem? (i := 65) rfl)) rfl
theorem in_X12_press : Cond.initialized yX12_press.cls ∈ wl := mW (mT1 (List.mem_of_getElem? (i := 12) (by decide +kernel))) rfl
theorem im_X12_press : Cond.instanceMethod yX12_press ∈ wl := mW (mT6 (List.mem_of_getElem? (i := 63) (by decide +kernel))) rfl
theorem se_X12_press : Cond.selects yX12_press.cls yX12_press yX12_press ∈ wl := mW (mT6 (List.mem_of_getElem? (i := 64) (by decide +kernel))) rfl
theorem lv_L_36 : LV RL 36 yX12_press cX12_press 3 (some .boolean) 2 11 := ⟨⟨(RX12, TX12, 33), rfl, rfl⟩, yo_X12_press, mW (mT6 (List.mem_of_getElem? (i := 62) (by decide +kernel))) rfl, im_X12_press, se_X12_press, in_X12_press, co_X12_press⟩
theorem yo_X11_tick : yX11_tick.cls ≠ "java/lang/invoke/MethodHandle" ∧ yX11_tick.cls ≠ "java/lang/invoke/VarHandle" ∧ (parseMethodDescriptor yX11_tick.desc).map (fun d => d.parameters.length) = some 1 := by decide +kernel
theorem co_X11_tick : Cond.code yX11_tick cX11_tick 4 (some .int) ∈ wl := mW (mT4 (List.mem_of_getElem? (i := 58) rfl)) rfl
theorem in_X11_tick : Cond.initialized yX11_tick.cls ∈ wl := mW (mT1 (List.mem_of_getElem? (i := 1) (by decide +kernel))) rfl
theorem im_X11_tick : Cond.instanceMethod yX11_tick ∈ wl := mW (mT4 (List.mem_of_getElem? (i := 56) (by decide +kernel))) rfl
theorem se_X11_tick : Cond.selects yX11_tick.cls yX11_tick yX11_tick ∈ wl := mW (mT4 (List.mem_of_getElem? (i := 57) (by decide +kernel))) rfl
theorem lv_L_37 : LV RL 37 yX11_tick cX11_tick 4 (some .int) 1 10 := ⟨⟨(RX11, TX11, 10), rfl, rfl⟩, yo_X11_tick, mW (mT4 (List.mem_of_getElem? (i := 55) (by decide +kernel))) rfl, im_X11_tick, se_X11_tick, in_X11_tick, co_X11_tick⟩
theorem yo_X12_tick : yX12_tick.cls ≠ "java/lang/invoke/MethodHandle" ∧ yX12_tick.cls ≠ "java/lang/invoke/VarHandle" ∧ (parseMethodDescriptor yX12_tick.desc).map (fun d => d.parameters.length) = some 1 := by decide +kernel
theorem co_X12_tick : Cond.code yX12_tick cX12_tick 4 (some .int) ∈ wl := mW (mT6 (List.mem_of_getElem? (i := 115) rfl)) rfl
theorem in_X12_tick : Cond.initialized yX12_tick.cls ∈ wl := mW (mT1 (List.mem_of_getElem? (i := 12) (by decide +kernel))) rfl
theorem im_X12_tick : Cond.instanceMethod yX12_tick ∈ wl := mW (mT6 (List.mem_of_getElem? (i := 113) (by decide +kernel))) rfl
theorem se_X12_tick : Cond.selects yX12_tick.cls yX12_tick yX12_tick ∈ wl := mW (mT6 (List.mem_of_getElem? (i := 114) (by decide +kernel))) rfl
theorem lv_L_40 : LV RL 40 yX12_tick cX12_tick 4 (some .int) 1 11 := ⟨⟨(RX12, TX12, 33), rfl, rfl⟩, yo_X12_tick, mW (mT6 (List.mem_of_getElem? (i := 112) (by decide +kernel))) rfl, im_X12_tick, se_X12_tick, in_X12_tick, co_X12_tick⟩
theorem yo_X11_key : yX11_key.cls ≠ "java/lang/invoke/MethodHandle" ∧ yX11_key.cls ≠ "java/lang/invoke/VarHandle" ∧ (parseMethodDescriptor yX11_key.desc).map (fun d => d.parameters.length) = some 2 := by decide +kernel
theorem co_X11_key : Cond.code yX11_key cX11_key 4 (some .int) ∈ wl := mW (mT4 (List.mem_of_getElem? (i := 211) rfl)) rfl
theorem in_X11_key : Cond.initialized yX11_key.cls ∈ wl := mW (mT1 (List.mem_of_getElem? (i := 1) (by decide +kernel))) rfl
theorem im_X11_key : Cond.instanceMethod yX11_key ∈ wl := mW (mT4 (List.mem_of_getElem? (i := 209) (by decide +kernel))) rfl
theorem se_X11_key : Cond.selects yX11_key.cls yX11_key yX11_key ∈ wl := mW (mT4 (List.mem_of_getElem? (i := 210) (by decide +kernel))) rfl
theorem lv_L_41 : LV RL 41 yX11_key cX11_key 4 (some .int) 2 10 := ⟨⟨(RX11, TX11, 10), rfl, rfl⟩, yo_X11_key, mW (mT4 (List.mem_of_getElem? (i := 208) (by decide +kernel))) rfl, im_X11_key, se_X11_key, in_X11_key, co_X11_key⟩
theorem yo_X12_key : yX12_key.cls ≠ "java/lang/invoke/MethodHandle" ∧ yX12_key.cls ≠ "java/lang/invoke/VarHandle" ∧ (parseMethodDescriptor yX12_key.desc).map (fun d => d.parameters.length) = some 2 := by decide +kernel
theorem co_X12_key : Cond.code yX12_key cX12_key 4 (some .int) ∈ wl := mW (mT6 (List.mem_of_getElem? (i := 229) rfl)) rfl
theorem in_X12_key : Cond.initialized yX12_key.cls ∈ wl := mW (mT1 (List.mem_of_getElem? (i := 12) (by decide +kernel))) rfl
theorem im_X12_key : Cond.instanceMethod yX12_key ∈ wl := mW (mT6 (List.mem_of_getElem? (i := 227) (by decide +kernel))) rfl
theorem se_X12_key : Cond.selects yX12_key.cls yX12_key yX12_key ∈ wl := mW (mT6 (List.mem_of_getElem? (i := 228) (by decide +kernel))) rfl
theorem lv_L_45 : LV RL 45 yX12_key cX12_key 4 (some .int) 2 11 := ⟨⟨(RX12, TX12, 33), rfl, rfl⟩, yo_X12_key, mW (mT6 (List.mem_of_getElem? (i := 226) (by decide +kernel))) rfl, im_X12_key, se_X12_key, in_X12_key, co_X12_key⟩
theorem yo_X11_deed : yX11_deed.cls ≠ "java/lang/invoke/MethodHandle" ∧ yX11_deed.cls ≠ "java/lang/invoke/VarHandle" ∧ (parseMethodDescriptor yX11_deed.desc).map (fun d => d.parameters.length) = some 3 := by decide +kernel
theorem co_X11_deed : Cond.code yX11_deed cX11_deed 5 (some .int) ∈ wl := mW (mT4 (List.mem_of_getElem? (i := 222) rfl)) rfl
theorem in_X11_deed : Cond.initialized yX11_deed.cls ∈ wl := mW (mT1 (List.mem_of_getElem? (i := 1) (by decide +kernel))) rfl
theorem im_X11_deed : Cond.instanceMethod yX11_deed ∈ wl := mW (mT4 (List.mem_of_getElem? (i := 220) (by decide +kernel))) rfl
theorem se_X11_deed : Cond.selects yX11_deed.cls yX11_deed yX11_deed ∈ wl := mW (mT4 (List.mem_of_getElem? (i := 221) (by decide +kernel))) rfl
theorem lv_L_46 : LV RL 46 yX11_deed cX11_deed 5 (some .int) 3 10 := ⟨⟨(RX11, TX11, 10), rfl, rfl⟩, yo_X11_deed, mW (mT4 (List.mem_of_getElem? (i := 219) (by decide +kernel))) rfl, im_X11_deed, se_X11_deed, in_X11_deed, co_X11_deed⟩
theorem yo_X12_deed : yX12_deed.cls ≠ "java/lang/invoke/MethodHandle" ∧ yX12_deed.cls ≠ "java/lang/invoke/VarHandle" ∧ (parseMethodDescriptor yX12_deed.desc).map (fun d => d.parameters.length) = some 3 := by decide +kernel
theorem co_X12_deed : Cond.code yX12_deed cX12_deed 5 (some .int) ∈ wl := mW (mT6 (List.mem_of_getElem? (i := 103) rfl)) rfl
theorem in_X12_deed : Cond.initialized yX12_deed.cls ∈ wl := mW (mT1 (List.mem_of_getElem? (i := 12) (by decide +kernel))) rfl
theorem im_X12_deed : Cond.instanceMethod yX12_deed ∈ wl := mW (mT6 (List.mem_of_getElem? (i := 101) (by decide +kernel))) rfl
theorem se_X12_deed : Cond.selects yX12_deed.cls yX12_deed yX12_deed ∈ wl := mW (mT6 (List.mem_of_getElem? (i := 102) (by decide +kernel))) rfl
theorem lv_L_50 : LV RL 50 yX12_deed cX12_deed 5 (some .int) 3 11 := ⟨⟨(RX12, TX12, 33), rfl, rfl⟩, yo_X12_deed, mW (mT6 (List.mem_of_getElem? (i := 100) (by decide +kernel))) rfl, im_X12_deed, se_X12_deed, in_X12_deed, co_X12_deed⟩
theorem yo_X11_does : yX11_does.cls ≠ "java/lang/invoke/MethodHandle" ∧ yX11_does.cls ≠ "java/lang/invoke/VarHandle" ∧ (parseMethodDescriptor yX11_does.desc).map (fun d => d.parameters.length) = some 2 := by decide +kernel
theorem co_X11_does : Cond.code yX11_does cX11_does 3 (some .int) ∈ wl := mW (mT4 (List.mem_of_getElem? (i := 229) rfl)) rfl
theorem in_X11_does : Cond.initialized yX11_does.cls ∈ wl := mW (mT1 (List.mem_of_getElem? (i := 1) (by decide +kernel))) rfl
theorem im_X11_does : Cond.instanceMethod yX11_does ∈ wl := mW (mT4 (List.mem_of_getElem? (i := 227) (by decide +kernel))) rfl
theorem se_X11_does : Cond.selects yX11_does.cls yX11_does yX11_does ∈ wl := mW (mT4 (List.mem_of_getElem? (i := 228) (by decide +kernel))) rfl
theorem lv_L_51 : LV RL 51 yX11_does cX11_does 3 (some .int) 2 10 := ⟨⟨(RX11, TX11, 10), rfl, rfl⟩, yo_X11_does, mW (mT4 (List.mem_of_getElem? (i := 226) (by decide +kernel))) rfl, im_X11_does, se_X11_does, in_X11_does, co_X11_does⟩
theorem yo_X12_does : yX12_does.cls ≠ "java/lang/invoke/MethodHandle" ∧ yX12_does.cls ≠ "java/lang/invoke/VarHandle" ∧ (parseMethodDescriptor yX12_does.desc).map (fun d => d.parameters.length) = some 2 := by decide +kernel
theorem co_X12_does : Cond.code yX12_does cX12_does 3 (some .int) ∈ wl := mW (mT6 (List.mem_of_getElem? (i := 238) rfl)) rfl
theorem in_X12_does : Cond.initialized yX12_does.cls ∈ wl := mW (mT1 (List.mem_of_getElem? (i := 12) (by decide +kernel))) rfl
theorem im_X12_does : Cond.instanceMethod yX12_does ∈ wl := mW (mT6 (List.mem_of_getElem? (i := 236) (by decide +kernel))) rfl
theorem se_X12_does : Cond.selects yX12_does.cls yX12_does yX12_does ∈ wl := mW (mT6 (List.mem_of_getElem? (i := 237) (by decide +kernel))) rfl
theorem lv_L_54 : LV RL 54 yX12_does cX12_does 3 (some .int) 2 11 := ⟨⟨(RX12, TX12, 33), rfl, rfl⟩, yo_X12_does, mW (mT6 (List.mem_of_getElem? (i := 235) (by decide +kernel))) rfl, im_X12_does, se_X12_does, in_X12_does, co_X12_does⟩
theorem yo_X11_event : yX11_event.cls ≠ "java/lang/invoke/MethodHandle" ∧ yX11_event.cls ≠ "java/lang/invoke/VarHandle" ∧ (parseMethodDescriptor yX11_event.desc).map (fun d => d.parameters.length) = some 2 := by decide +kernel
theorem co_X11_event : Cond.code yX11_event cX11_event 4 (some .int) ∈ wl := mW (mT4 (List.mem_of_getElem? (i := 233) rfl)) rfl
theorem in_X11_event : Cond.initialized yX11_event.cls ∈ wl := mW (mT1 (List.mem_of_getElem? (i := 1) (by decide +kernel))) rfl
theorem im_X11_event : Cond.instanceMethod yX11_event ∈ wl := mW (mT4 (List.mem_of_getElem? (i := 231) (by decide +kernel))) rfl
theorem se_X11_event : Cond.selects yX11_event.cls yX11_event yX11_event ∈ wl := mW (mT4 (List.mem_of_getElem? (i := 232) (by decide +kernel))) rfl
theorem lv_L_55 : LV RL 55 yX11_event cX11_event 4 (some .int) 2 10 := ⟨⟨(RX11, TX11, 10), rfl, rfl⟩, yo_X11_event, mW (mT4 (List.mem_of_getElem? (i := 230) (by decide +kernel))) rfl, im_X11_event, se_X11_event, in_X11_event, co_X11_event⟩
theorem yo_X12_event : yX12_event.cls ≠ "java/lang/invoke/MethodHandle" ∧ yX12_event.cls ≠ "java/lang/invoke/VarHandle" ∧ (parseMethodDescriptor yX12_event.desc).map (fun d => d.parameters.length) = some 2 := by decide +kernel
theorem co_X12_event : Cond.code yX12_event cX12_event 3 (some .int) ∈ wl := mW (mT7 (List.mem_of_getElem? (i := 2) rfl)) rfl
theorem in_X12_event : Cond.initialized yX12_event.cls ∈ wl := mW (mT1 (List.mem_of_getElem? (i := 12) (by decide +kernel))) rfl
theorem im_X12_event : Cond.instanceMethod yX12_event ∈ wl := mW (mT7 (List.mem_of_getElem? (i := 0) (by decide +kernel))) rfl
theorem se_X12_event : Cond.selects yX12_event.cls yX12_event yX12_event ∈ wl := mW (mT7 (List.mem_of_getElem? (i := 1) (by decide +kernel))) rfl
theorem lv_L_58 : LV RL 58 yX12_event cX12_event 3 (some .int) 2 11 := ⟨⟨(RX12, TX12, 33), rfl, rfl⟩, yo_X12_event, mW (mT6 (List.mem_of_getElem? (i := 239) (by decide +kernel))) rfl, im_X12_event, se_X12_event, in_X12_event, co_X12_event⟩
theorem yo_X11_report : yX11_report.cls ≠ "java/lang/invoke/MethodHandle" ∧ yX11_report.cls ≠ "java/lang/invoke/VarHandle" ∧ (parseMethodDescriptor yX11_report.desc).map (fun d => d.parameters.length) = some 2 := by decide +kernel
theorem co_X11_report : Cond.code yX11_report cX11_report 5 (some .int) ∈ wl := mW (mT5 (List.mem_of_getElem? (i := 0) rfl)) rfl
theorem in_X11_report : Cond.initialized yX11_report.cls ∈ wl := mW (mT1 (List.mem_of_getElem? (i := 1) (by decide +kernel))) rfl
theorem im_X11_report : Cond.instanceMethod yX11_report ∈ wl := mW (mT4 (List.mem_of_getElem? (i := 238) (by decide +kernel))) rfl
theorem se_X11_report : Cond.selects yX11_report.cls yX11_report yX11_report ∈ wl := mW (mT4 (List.mem_of_getElem? (i := 239) (by decide +kernel))) rfl
theorem lv_L_59 : LV RL 59 yX11_report cX11_report 5 (some .int) 2 10 := ⟨⟨(RX11, TX11, 10), rfl, rfl⟩, yo_X11_report, mW (mT4 (List.mem_of_getElem? (i := 237) (by decide +kernel))) rfl, im_X11_report, se_X11_report, in_X11_report, co_X11_report⟩
theorem yo_X12_report : yX12_report.cls ≠ "java/lang/invoke/MethodHandle" ∧ yX12_report.cls ≠ "java/lang/invoke/VarHandle" ∧ (parseMethodDescriptor yX12_report.desc).map (fun d => d.parameters.length) = some 2 := by decide +kernel
theorem co_X12_report : Cond.code yX12_report cX12_report 4 (some .int) ∈ wl := mW (mT7 (List.mem_of_getElem? (i := 6) rfl)) rfl
theorem in_X12_report : Cond.initialized yX12_report.cls ∈ wl := mW (mT1 (List.mem_of_getElem? (i := 12) (by decide +kernel))) rfl
theorem im_X12_report : Cond.instanceMethod yX12_report ∈ wl := mW (mT7 (List.mem_of_getElem? (i := 4) (by decide +kernel))) rfl
theorem se_X12_report : Cond.selects yX12_report.cls yX12_report yX12_report ∈ wl := mW (mT7 (List.mem_of_getElem? (i := 5) (by decide +kernel))) rfl
theorem lv_L_62 : LV RL 62 yX12_report cX12_report 4 (some .int) 2 11 := ⟨⟨(RX12, TX12, 33), rfl, rfl⟩, yo_X12_report, mW (mT7 (List.mem_of_getElem? (i := 3) (by decide +kernel))) rfl, im_X12_report, se_X12_report, in_X12_report, co_X12_report⟩
theorem yo_X11_sent : yX11_sent.cls ≠ "java/lang/invoke/MethodHandle" ∧ yX11_sent.cls ≠ "java/lang/invoke/VarHandle" ∧ (parseMethodDescriptor yX11_sent.desc).map (fun d => d.parameters.length) = some 1 := by decide +kernel
theorem co_X11_sent : Cond.code yX11_sent cX11_sent 3 (some .int) ∈ wl := mW (mT5 (List.mem_of_getElem? (i := 6) rfl)) rfl
theorem in_X11_sent : Cond.initialized yX11_sent.cls ∈ wl := mW (mT1 (List.mem_of_getElem? (i := 1) (by decide +kernel))) rfl
theorem im_X11_sent : Cond.instanceMethod yX11_sent ∈ wl := mW (mT5 (List.mem_of_getElem? (i := 4) (by decide +kernel))) rfl
theorem se_X11_sent : Cond.selects yX11_sent.cls yX11_sent yX11_sent ∈ wl := mW (mT5 (List.mem_of_getElem? (i := 5) (by decide +kernel))) rfl
theorem lv_L_63 : LV RL 63 yX11_sent cX11_sent 3 (some .int) 1 10 := ⟨⟨(RX11, TX11, 10), rfl, rfl⟩, yo_X11_sent, mW (mT5 (List.mem_of_getElem? (i := 3) (by decide +kernel))) rfl, im_X11_sent, se_X11_sent, in_X11_sent, co_X11_sent⟩
theorem yo_X12_sent : yX12_sent.cls ≠ "java/lang/invoke/MethodHandle" ∧ yX12_sent.cls ≠ "java/lang/invoke/VarHandle" ∧ (parseMethodDescriptor yX12_sent.desc).map (fun d => d.parameters.length) = some 1 := by decide +kernel
theorem co_X12_sent : Cond.code yX12_sent cX12_sent 2 (some .int) ∈ wl := mW (mT7 (List.mem_of_getElem? (i := 14) rfl)) rfl
theorem in_X12_sent : Cond.initialized yX12_sent.cls ∈ wl := mW (mT1 (List.mem_of_getElem? (i := 12) (by decide +kernel))) rfl
theorem im_X12_sent : Cond.instanceMethod yX12_sent ∈ wl := mW (mT7 (List.mem_of_getElem? (i := 12) (by decide +kernel))) rfl
theorem se_X12_sent : Cond.selects yX12_sent.cls yX12_sent yX12_sent ∈ wl := mW (mT7 (List.mem_of_getElem? (i := 13) (by decide +kernel))) rfl
theorem lv_L_66 : LV RL 66 yX12_sent cX12_sent 2 (some .int) 1 11 := ⟨⟨(RX12, TX12, 33), rfl, rfl⟩, yo_X12_sent, mW (mT7 (List.mem_of_getElem? (i := 11) (by decide +kernel))) rfl, im_X12_sent, se_X12_sent, in_X12_sent, co_X12_sent⟩
theorem yo_X11_host : yX11_host.cls ≠ "java/lang/invoke/MethodHandle" ∧ yX11_host.cls ≠ "java/lang/invoke/VarHandle" ∧ (parseMethodDescriptor yX11_host.desc).map (fun d => d.parameters.length) = some 1 := by decide +kernel
theorem co_X11_host : Cond.code yX11_host cX11_host 3 (some .int) ∈ wl := mW (mT5 (List.mem_of_getElem? (i := 11) rfl)) rfl
theorem in_X11_host : Cond.initialized yX11_host.cls ∈ wl := mW (mT1 (List.mem_of_getElem? (i := 1) (by decide +kernel))) rfl
theorem im_X11_host : Cond.instanceMethod yX11_host ∈ wl := mW (mT5 (List.mem_of_getElem? (i := 9) (by decide +kernel))) rfl
theorem se_X11_host : Cond.selects yX11_host.cls yX11_host yX11_host ∈ wl := mW (mT5 (List.mem_of_getElem? (i := 10) (by decide +kernel))) rfl
theorem lv_L_67 : LV RL 67 yX11_host cX11_host 3 (some .int) 1 10 := ⟨⟨(RX11, TX11, 10), rfl, rfl⟩, yo_X11_host, mW (mT5 (List.mem_of_getElem? (i := 8) (by decide +kernel))) rfl, im_X11_host, se_X11_host, in_X11_host, co_X11_host⟩
theorem yo_X12_host : yX12_host.cls ≠ "java/lang/invoke/MethodHandle" ∧ yX12_host.cls ≠ "java/lang/invoke/VarHandle" ∧ (parseMethodDescriptor yX12_host.desc).map (fun d => d.parameters.length) = some 1 := by decide +kernel
theorem co_X12_host : Cond.code yX12_host cX12_host 2 (some .int) ∈ wl := mW (mT7 (List.mem_of_getElem? (i := 18) rfl)) rfl
theorem in_X12_host : Cond.initialized yX12_host.cls ∈ wl := mW (mT1 (List.mem_of_getElem? (i := 12) (by decide +kernel))) rfl
theorem im_X12_host : Cond.instanceMethod yX12_host ∈ wl := mW (mT7 (List.mem_of_getElem? (i := 16) (by decide +kernel))) rfl
theorem se_X12_host : Cond.selects yX12_host.cls yX12_host yX12_host ∈ wl := mW (mT7 (List.mem_of_getElem? (i := 17) (by decide +kernel))) rfl
theorem lv_L_70 : LV RL 70 yX12_host cX12_host 2 (some .int) 1 11 := ⟨⟨(RX12, TX12, 33), rfl, rfl⟩, yo_X12_host, mW (mT7 (List.mem_of_getElem? (i := 15) (by decide +kernel))) rfl, im_X12_host, se_X12_host, in_X12_host, co_X12_host⟩
theorem yo_X11_strokes : yX11_strokes.cls ≠ "java/lang/invoke/MethodHandle" ∧ yX11_strokes.cls ≠ "java/lang/invoke/VarHandle" ∧ (parseMethodDescriptor yX11_strokes.desc).map (fun d => d.parameters.length) = some 2 := by decide +kernel
theorem co_X11_strokes : Cond.code yX11_strokes cX11_strokes 4 (some .int) ∈ wl := mW (mT5 (List.mem_of_getElem? (i := 15) rfl)) rfl
theorem in_X11_strokes : Cond.initialized yX11_strokes.cls ∈ wl := mW (mT1 (List.mem_of_getElem? (i := 1) (by decide +kernel))) rfl
theorem im_X11_strokes : Cond.instanceMethod yX11_strokes ∈ wl := mW (mT5 (List.mem_of_getElem? (i := 13) (by decide +kernel))) rfl
theorem se_X11_strokes : Cond.selects yX11_strokes.cls yX11_strokes yX11_strokes ∈ wl := mW (mT5 (List.mem_of_getElem? (i := 14) (by decide +kernel))) rfl
theorem lv_L_71 : LV RL 71 yX11_strokes cX11_strokes 4 (some .int) 2 10 := ⟨⟨(RX11, TX11, 10), rfl, rfl⟩, yo_X11_strokes, mW (mT5 (List.mem_of_getElem? (i := 12) (by decide +kernel))) rfl, im_X11_strokes, se_X11_strokes, in_X11_strokes, co_X11_strokes⟩
theorem yo_X12_strokes : yX12_strokes.cls ≠ "java/lang/invoke/MethodHandle" ∧ yX12_strokes.cls ≠ "java/lang/invoke/VarHandle" ∧ (parseMethodDescriptor yX12_strokes.desc).map (fun d => d.parameters.length) = some 2 := by decide +kernel
theorem co_X12_strokes : Cond.code yX12_strokes cX12_strokes 3 (some .int) ∈ wl := mW (mT7 (List.mem_of_getElem? (i := 22) rfl)) rfl
theorem in_X12_strokes : Cond.initialized yX12_strokes.cls ∈ wl := mW (mT1 (List.mem_of_getElem? (i := 12) (by decide +kernel))) rfl
theorem im_X12_strokes : Cond.instanceMethod yX12_strokes ∈ wl := mW (mT7 (List.mem_of_getElem? (i := 20) (by decide +kernel))) rfl
theorem se_X12_strokes : Cond.selects yX12_strokes.cls yX12_strokes yX12_strokes ∈ wl := mW (mT7 (List.mem_of_getElem? (i := 21) (by decide +kernel))) rfl
theorem lv_L_74 : LV RL 74 yX12_strokes cX12_strokes 3 (some .int) 2 11 := ⟨⟨(RX12, TX12, 33), rfl, rfl⟩, yo_X12_strokes, mW (mT7 (List.mem_of_getElem? (i := 19) (by decide +kernel))) rfl, im_X12_strokes, se_X12_strokes, in_X12_strokes, co_X12_strokes⟩
theorem yo_X11_chord : yX11_chord.cls ≠ "java/lang/invoke/MethodHandle" ∧ yX11_chord.cls ≠ "java/lang/invoke/VarHandle" ∧ (parseMethodDescriptor yX11_chord.desc).map (fun d => d.parameters.length) = some 2 := by decide +kernel
theorem co_X11_chord : Cond.code yX11_chord cX11_chord 3 (some .int) ∈ wl := mW (mT5 (List.mem_of_getElem? (i := 19) rfl)) rfl
theorem in_X11_chord : Cond.initialized yX11_chord.cls ∈ wl := mW (mT1 (List.mem_of_getElem? (i := 1) (by decide +kernel))) rfl
theorem im_X11_chord : Cond.instanceMethod yX11_chord ∈ wl := mW (mT5 (List.mem_of_getElem? (i := 17) (by decide +kernel))) rfl
theorem se_X11_chord : Cond.selects yX11_chord.cls yX11_chord yX11_chord ∈ wl := mW (mT5 (List.mem_of_getElem? (i := 18) (by decide +kernel))) rfl
theorem lv_L_75 : LV RL 75 yX11_chord cX11_chord 3 (some .int) 2 10 := ⟨⟨(RX11, TX11, 10), rfl, rfl⟩, yo_X11_chord, mW (mT5 (List.mem_of_getElem? (i := 16) (by decide +kernel))) rfl, im_X11_chord, se_X11_chord, in_X11_chord, co_X11_chord⟩
theorem yo_X12_chord : yX12_chord.cls ≠ "java/lang/invoke/MethodHandle" ∧ yX12_chord.cls ≠ "java/lang/invoke/VarHandle" ∧ (parseMethodDescriptor yX12_chord.desc).map (fun d => d.parameters.length) = some 2 := by decide +kernel
theorem co_X12_chord : Cond.code yX12_chord cX12_chord 3 (some .int) ∈ wl := mW (mT7 (List.mem_of_getElem? (i := 26) rfl)) rfl
theorem in_X12_chord : Cond.initialized yX12_chord.cls ∈ wl := mW (mT1 (List.mem_of_getElem? (i := 12) (by decide +kernel))) rfl
theorem im_X12_chord : Cond.instanceMethod yX12_chord ∈ wl := mW (mT7 (List.mem_of_getElem? (i := 24) (by decide +kernel))) rfl
theorem se_X12_chord : Cond.selects yX12_chord.cls yX12_chord yX12_chord ∈ wl := mW (mT7 (List.mem_of_getElem? (i := 25) (by decide +kernel))) rfl
theorem lv_L_78 : LV RL 78 yX12_chord cX12_chord 3 (some .int) 2 11 := ⟨⟨(RX12, TX12, 33), rfl, rfl⟩, yo_X12_chord, mW (mT7 (List.mem_of_getElem? (i := 23) (by decide +kernel))) rfl, im_X12_chord, se_X12_chord, in_X12_chord, co_X12_chord⟩
theorem yo_X11_macro : yX11_macro.cls ≠ "java/lang/invoke/MethodHandle" ∧ yX11_macro.cls ≠ "java/lang/invoke/VarHandle" ∧ (parseMethodDescriptor yX11_macro.desc).map (fun d => d.parameters.length) = some 2 := by decide +kernel
theorem co_X11_macro : Cond.code yX11_macro cX11_macro 3 (some .int) ∈ wl := mW (mT5 (List.mem_of_getElem? (i := 23) rfl)) rfl
theorem in_X11_macro : Cond.initialized yX11_macro.cls ∈ wl := mW (mT1 (List.mem_of_getElem? (i := 1) (by decide +kernel))) rfl
theorem im_X11_macro : Cond.instanceMethod yX11_macro ∈ wl := mW (mT5 (List.mem_of_getElem? (i := 21) (by decide +kernel))) rfl
theorem se_X11_macro : Cond.selects yX11_macro.cls yX11_macro yX11_macro ∈ wl := mW (mT5 (List.mem_of_getElem? (i := 22) (by decide +kernel))) rfl
theorem lv_L_79 : LV RL 79 yX11_macro cX11_macro 3 (some .int) 2 10 := ⟨⟨(RX11, TX11, 10), rfl, rfl⟩, yo_X11_macro, mW (mT5 (List.mem_of_getElem? (i := 20) (by decide +kernel))) rfl, im_X11_macro, se_X11_macro, in_X11_macro, co_X11_macro⟩
theorem yo_X12_macro : yX12_macro.cls ≠ "java/lang/invoke/MethodHandle" ∧ yX12_macro.cls ≠ "java/lang/invoke/VarHandle" ∧ (parseMethodDescriptor yX12_macro.desc).map (fun d => d.parameters.length) = some 2 := by decide +kernel
theorem co_X12_macro : Cond.code yX12_macro cX12_macro 4 (some .int) ∈ wl := mW (mT7 (List.mem_of_getElem? (i := 30) rfl)) rfl
theorem in_X12_macro : Cond.initialized yX12_macro.cls ∈ wl := mW (mT1 (List.mem_of_getElem? (i := 12) (by decide +kernel))) rfl
theorem im_X12_macro : Cond.instanceMethod yX12_macro ∈ wl := mW (mT7 (List.mem_of_getElem? (i := 28) (by decide +kernel))) rfl
theorem se_X12_macro : Cond.selects yX12_macro.cls yX12_macro yX12_macro ∈ wl := mW (mT7 (List.mem_of_getElem? (i := 29) (by decide +kernel))) rfl
theorem lv_L_82 : LV RL 82 yX12_macro cX12_macro 4 (some .int) 2 11 := ⟨⟨(RX12, TX12, 33), rfl, rfl⟩, yo_X12_macro, mW (mT7 (List.mem_of_getElem? (i := 27) (by decide +kernel))) rfl, im_X12_macro, se_X12_macro, in_X12_macro, co_X12_macro⟩
theorem yo_X11_ghosts : yX11_ghosts.cls ≠ "java/lang/invoke/MethodHandle" ∧ yX11_ghosts.cls ≠ "java/lang/invoke/VarHandle" ∧ (parseMethodDescriptor yX11_ghosts.desc).map (fun d => d.parameters.length) = some 2 := by decide +kernel
theorem co_X11_ghosts : Cond.code yX11_ghosts cX11_ghosts 3 (some .int) ∈ wl := mW (mT5 (List.mem_of_getElem? (i := 28) rfl)) rfl
theorem in_X11_ghosts : Cond.initialized yX11_ghosts.cls ∈ wl := mW (mT1 (List.mem_of_getElem? (i := 1) (by decide +kernel))) rfl
theorem im_X11_ghosts : Cond.instanceMethod yX11_ghosts ∈ wl := mW (mT5 (List.mem_of_getElem? (i := 26) (by decide +kernel))) rfl
theorem se_X11_ghosts : Cond.selects yX11_ghosts.cls yX11_ghosts yX11_ghosts ∈ wl := mW (mT5 (List.mem_of_getElem? (i := 27) (by decide +kernel))) rfl
theorem lv_L_83 : LV RL 83 yX11_ghosts cX11_ghosts 3 (some .int) 2 10 := ⟨⟨(RX11, TX11, 10), rfl, rfl⟩, yo_X11_ghosts, mW (mT5 (List.mem_of_getElem? (i := 25) (by decide +kernel))) rfl, im_X11_ghosts, se_X11_ghosts, in_X11_ghosts, co_X11_ghosts⟩
theorem yo_X12_ghosts : yX12_ghosts.cls ≠ "java/lang/invoke/MethodHandle" ∧ yX12_ghosts.cls ≠ "java/lang/invoke/VarHandle" ∧ (parseMethodDescriptor yX12_ghosts.desc).map (fun d => d.parameters.length) = some 2 := by decide +kernel
theorem co_X12_ghosts : Cond.code yX12_ghosts cX12_ghosts 4 (some .int) ∈ wl := mW (mT6 (List.mem_of_getElem? (i := 80) rfl)) rfl
theorem in_X12_ghosts : Cond.initialized yX12_ghosts.cls ∈ wl := mW (mT1 (List.mem_of_getElem? (i := 12) (by decide +kernel))) rfl
theorem im_X12_ghosts : Cond.instanceMethod yX12_ghosts ∈ wl := mW (mT6 (List.mem_of_getElem? (i := 78) (by decide +kernel))) rfl
theorem se_X12_ghosts : Cond.selects yX12_ghosts.cls yX12_ghosts yX12_ghosts ∈ wl := mW (mT6 (List.mem_of_getElem? (i := 79) (by decide +kernel))) rfl
theorem lv_L_86 : LV RL 86 yX12_ghosts cX12_ghosts 4 (some .int) 2 11 := ⟨⟨(RX12, TX12, 33), rfl, rfl⟩, yo_X12_ghosts, mW (mT6 (List.mem_of_getElem? (i := 77) (by decide +kernel))) rfl, im_X12_ghosts, se_X12_ghosts, in_X12_ghosts, co_X12_ghosts⟩
theorem yo_X11_ahead : yX11_ahead.cls ≠ "java/lang/invoke/MethodHandle" ∧ yX11_ahead.cls ≠ "java/lang/invoke/VarHandle" ∧ (parseMethodDescriptor yX11_ahead.desc).map (fun d => d.parameters.length) = some 2 := by decide +kernel
theorem co_X11_ahead : Cond.code yX11_ahead cX11_ahead 4 (some .int) ∈ wl := mW (mT5 (List.mem_of_getElem? (i := 33) rfl)) rfl
theorem in_X11_ahead : Cond.initialized yX11_ahead.cls ∈ wl := mW (mT1 (List.mem_of_getElem? (i := 1) (by decide +kernel))) rfl
theorem im_X11_ahead : Cond.instanceMethod yX11_ahead ∈ wl := mW (mT5 (List.mem_of_getElem? (i := 31) (by decide +kernel))) rfl
theorem se_X11_ahead : Cond.selects yX11_ahead.cls yX11_ahead yX11_ahead ∈ wl := mW (mT5 (List.mem_of_getElem? (i := 32) (by decide +kernel))) rfl
theorem lv_L_87 : LV RL 87 yX11_ahead cX11_ahead 4 (some .int) 2 10 := ⟨⟨(RX11, TX11, 10), rfl, rfl⟩, yo_X11_ahead, mW (mT5 (List.mem_of_getElem? (i := 30) (by decide +kernel))) rfl, im_X11_ahead, se_X11_ahead, in_X11_ahead, co_X11_ahead⟩
theorem yo_X12_ahead : yX12_ahead.cls ≠ "java/lang/invoke/MethodHandle" ∧ yX12_ahead.cls ≠ "java/lang/invoke/VarHandle" ∧ (parseMethodDescriptor yX12_ahead.desc).map (fun d => d.parameters.length) = some 2 := by decide +kernel
theorem co_X12_ahead : Cond.code yX12_ahead cX12_ahead 5 (some .int) ∈ wl := mW (mT7 (List.mem_of_getElem? (i := 34) rfl)) rfl
theorem in_X12_ahead : Cond.initialized yX12_ahead.cls ∈ wl := mW (mT1 (List.mem_of_getElem? (i := 12) (by decide +kernel))) rfl
theorem im_X12_ahead : Cond.instanceMethod yX12_ahead ∈ wl := mW (mT7 (List.mem_of_getElem? (i := 32) (by decide +kernel))) rfl
theorem se_X12_ahead : Cond.selects yX12_ahead.cls yX12_ahead yX12_ahead ∈ wl := mW (mT7 (List.mem_of_getElem? (i := 33) (by decide +kernel))) rfl
theorem lv_L_90 : LV RL 90 yX12_ahead cX12_ahead 5 (some .int) 2 11 := ⟨⟨(RX12, TX12, 33), rfl, rfl⟩, yo_X12_ahead, mW (mT7 (List.mem_of_getElem? (i := 31) (by decide +kernel))) rfl, im_X12_ahead, se_X12_ahead, in_X12_ahead, co_X12_ahead⟩
theorem yo_X11_hold : yX11_hold.cls ≠ "java/lang/invoke/MethodHandle" ∧ yX11_hold.cls ≠ "java/lang/invoke/VarHandle" ∧ (parseMethodDescriptor yX11_hold.desc).map (fun d => d.parameters.length) = some 1 := by decide +kernel
theorem co_X11_hold : Cond.code yX11_hold cX11_hold 2 (some .boolean) ∈ wl := mW (mT5 (List.mem_of_getElem? (i := 59) rfl)) rfl
theorem in_X11_hold : Cond.initialized yX11_hold.cls ∈ wl := mW (mT1 (List.mem_of_getElem? (i := 1) (by decide +kernel))) rfl
theorem im_X11_hold : Cond.instanceMethod yX11_hold ∈ wl := mW (mT5 (List.mem_of_getElem? (i := 57) (by decide +kernel))) rfl
theorem se_X11_hold : Cond.selects yX11_hold.cls yX11_hold yX11_hold ∈ wl := mW (mT5 (List.mem_of_getElem? (i := 58) (by decide +kernel))) rfl
theorem lv_L_91 : LV RL 91 yX11_hold cX11_hold 2 (some .boolean) 1 10 := ⟨⟨(RX11, TX11, 10), rfl, rfl⟩, yo_X11_hold, mW (mT5 (List.mem_of_getElem? (i := 56) (by decide +kernel))) rfl, im_X11_hold, se_X11_hold, in_X11_hold, co_X11_hold⟩
theorem yo_X12_hold : yX12_hold.cls ≠ "java/lang/invoke/MethodHandle" ∧ yX12_hold.cls ≠ "java/lang/invoke/VarHandle" ∧ (parseMethodDescriptor yX12_hold.desc).map (fun d => d.parameters.length) = some 1 := by decide +kernel
theorem co_X12_hold : Cond.code yX12_hold cX12_hold 3 (some .boolean) ∈ wl := mW (mT7 (List.mem_of_getElem? (i := 38) rfl)) rfl
theorem in_X12_hold : Cond.initialized yX12_hold.cls ∈ wl := mW (mT1 (List.mem_of_getElem? (i := 12) (by decide +kernel))) rfl
theorem im_X12_hold : Cond.instanceMethod yX12_hold ∈ wl := mW (mT7 (List.mem_of_getElem? (i := 36) (by decide +kernel))) rfl
theorem se_X12_hold : Cond.selects yX12_hold.cls yX12_hold yX12_hold ∈ wl := mW (mT7 (List.mem_of_getElem? (i := 37) (by decide +kernel))) rfl
theorem lv_L_95 : LV RL 95 yX12_hold cX12_hold 3 (some .boolean) 1 11 := ⟨⟨(RX12, TX12, 33), rfl, rfl⟩, yo_X12_hold, mW (mT7 (List.mem_of_getElem? (i := 35) (by decide +kernel))) rfl, im_X12_hold, se_X12_hold, in_X12_hold, co_X12_hold⟩
theorem yo_X11_restore : yX11_restore.cls ≠ "java/lang/invoke/MethodHandle" ∧ yX11_restore.cls ≠ "java/lang/invoke/VarHandle" ∧ (parseMethodDescriptor yX11_restore.desc).map (fun d => d.parameters.length) = some 1 := by decide +kernel
theorem co_X11_restore : Cond.code yX11_restore cX11_restore 2 (some .boolean) ∈ wl := mW (mT5 (List.mem_of_getElem? (i := 63) rfl)) rfl
theorem in_X11_restore : Cond.initialized yX11_restore.cls ∈ wl := mW (mT1 (List.mem_of_getElem? (i := 1) (by decide +kernel))) rfl
theorem im_X11_restore : Cond.instanceMethod yX11_restore ∈ wl := mW (mT5 (List.mem_of_getElem? (i := 61) (by decide +kernel))) rfl
theorem se_X11_restore : Cond.selects yX11_restore.cls yX11_restore yX11_restore ∈ wl := mW (mT5 (List.mem_of_getElem? (i := 62) (by decide +kernel))) rfl
theorem lv_L_96 : LV RL 96 yX11_restore cX11_restore 2 (some .boolean) 1 10 := ⟨⟨(RX11, TX11, 10), rfl, rfl⟩, yo_X11_restore, mW (mT5 (List.mem_of_getElem? (i := 60) (by decide +kernel))) rfl, im_X11_restore, se_X11_restore, in_X11_restore, co_X11_restore⟩
theorem yo_X12_restore : yX12_restore.cls ≠ "java/lang/invoke/MethodHandle" ∧ yX12_restore.cls ≠ "java/lang/invoke/VarHandle" ∧ (parseMethodDescriptor yX12_restore.desc).map (fun d => d.parameters.length) = some 1 := by decide +kernel
theorem co_X12_restore : Cond.code yX12_restore cX12_restore 3 (some .boolean) ∈ wl := mW (mT7 (List.mem_of_getElem? (i := 42) rfl)) rfl
theorem in_X12_restore : Cond.initialized yX12_restore.cls ∈ wl := mW (mT1 (List.mem_of_getElem? (i := 12) (by decide +kernel))) rfl
theorem im_X12_restore : Cond.instanceMethod yX12_restore ∈ wl := mW (mT7 (List.mem_of_getElem? (i := 40) (by decide +kernel))) rfl
theorem se_X12_restore : Cond.selects yX12_restore.cls yX12_restore yX12_restore ∈ wl := mW (mT7 (List.mem_of_getElem? (i := 41) (by decide +kernel))) rfl
theorem lv_L_99 : LV RL 99 yX12_restore cX12_restore 3 (some .boolean) 1 11 := ⟨⟨(RX12, TX12, 33), rfl, rfl⟩, yo_X12_restore, mW (mT7 (List.mem_of_getElem? (i := 39) (by decide +kernel))) rfl, im_X12_restore, se_X12_restore, in_X12_restore, co_X12_restore⟩
theorem yo_X11_count : yX11_count.cls ≠ "java/lang/invoke/MethodHandle" ∧ yX11_count.cls ≠ "java/lang/invoke/VarHandle" ∧ (parseMethodDescriptor yX11_count.desc).map (fun d => d.parameters.length) = some 1 := by decide +kernel
theorem co_X11_count : Cond.code yX11_count cX11_count 2 (some .int) ∈ wl := mW (mT5 (List.mem_of_getElem? (i := 67) rfl)) rfl
theorem in_X11_count : Cond.initialized yX11_count.cls ∈ wl := mW (mT1 (List.mem_of_getElem? (i := 1) (by decide +kernel))) rfl
theorem im_X11_count : Cond.instanceMethod yX11_count ∈ wl := mW (mT5 (List.mem_of_getElem? (i := 65) (by decide +kernel))) rfl
theorem se_X11_count : Cond.selects yX11_count.cls yX11_count yX11_count ∈ wl := mW (mT5 (List.mem_of_getElem? (i := 66) (by decide +kernel))) rfl
theorem lv_L_100 : LV RL 100 yX11_count cX11_count 2 (some .int) 1 10 := ⟨⟨(RX11, TX11, 10), rfl, rfl⟩, yo_X11_count, mW (mT5 (List.mem_of_getElem? (i := 64) (by decide +kernel))) rfl, im_X11_count, se_X11_count, in_X11_count, co_X11_count⟩
theorem yo_X12_count : yX12_count.cls ≠ "java/lang/invoke/MethodHandle" ∧ yX12_count.cls ≠ "java/lang/invoke/VarHandle" ∧ (parseMethodDescriptor yX12_count.desc).map (fun d => d.parameters.length) = some 1 := by decide +kernel
theorem co_X12_count : Cond.code yX12_count cX12_count 2 (some .int) ∈ wl := mW (mT7 (List.mem_of_getElem? (i := 46) rfl)) rfl
theorem in_X12_count : Cond.initialized yX12_count.cls ∈ wl := mW (mT1 (List.mem_of_getElem? (i := 12) (by decide +kernel))) rfl
theorem im_X12_count : Cond.instanceMethod yX12_count ∈ wl := mW (mT7 (List.mem_of_getElem? (i := 44) (by decide +kernel))) rfl
theorem se_X12_count : Cond.selects yX12_count.cls yX12_count yX12_count ∈ wl := mW (mT7 (List.mem_of_getElem? (i := 45) (by decide +kernel))) rfl
theorem lv_L_103 : LV RL 103 yX12_count cX12_count 2 (some .int) 1 11 := ⟨⟨(RX12, TX12, 33), rfl, rfl⟩, yo_X12_count, mW (mT7 (List.mem_of_getElem? (i := 43) (by decide +kernel))) rfl, im_X12_count, se_X12_count, in_X12_count, co_X12_count⟩
theorem dL_law_0 : decode cL_law 0 = .ok (.new 7, 3) := by decide +kernel
theorem dL_law_3 : decode cL_law 3 = .ok (.dup, 1) := by decide +kernel
theorem dL_law_4 : decode cL_law 4 = .ok (.invokespecial 9, 3) := by decide +kernel
theorem dL_law_7 : decode cL_law 7 = .ok (.astore_n 1, 1) := by decide +kernel
theorem dL_law_8 : decode cL_law 8 = .ok (.new 10, 3) := by decide +kernel
theorem dL_law_11 : decode cL_law 11 = .ok (.dup, 1) := by decide +kernel
theorem dL_law_12 : decode cL_law 12 = .ok (.invokespecial 12, 3) := by decide +kernel
theorem dL_law_15 : decode cL_law 15 = .ok (.astore_n 2, 1) := by decide +kernel
theorem dL_law_16 : decode cL_law 16 = .ok (.iconst 0, 1) := by decide +kernel
theorem dL_law_17 : decode cL_law 17 = .ok (.istore_n 3, 1) := by decide +kernel
theorem dL_law_18 : decode cL_law 18 = .ok (.iload_n 3, 1) := by decide +kernel
theorem dL_law_19 : decode cL_law 19 = .ok (.aload_n 0, 1) := by decide +kernel
theorem dL_law_20 : decode cL_law 20 = .ok (.arraylength, 1) := by decide +kernel
theorem dL_law_21 : decode cL_law 21 = .ok (.bipush 6, 2) := by decide +kernel
theorem dL_law_23 : decode cL_law 23 = .ok (.isub, 1) := by decide +kernel
theorem dL_law_24 : decode cL_law 24 = .ok (.if_icmp .gt 753, 3) := by decide +kernel
theorem dL_law_27 : decode cL_law 27 = .ok (.aload_n 0, 1) := by decide +kernel
theorem dL_law_28 : decode cL_law 28 = .ok (.iload_n 3, 1) := by decide +kernel
theorem dL_law_29 : decode cL_law 29 = .ok (.iaload, 1) := by decide +kernel
theorem dL_law_30 : decode cL_law 30 = .ok (.bipush 31, 2) := by decide +kernel
theorem dL_law_32 : decode cL_law 32 = .ok (.iand, 1) := by decide +kernel
theorem dL_law_33 : decode cL_law 33 = .ok (.tableswitch 738 0 20 #[99, 162, 185, 198, 211, 260, 283, 316, 359, 392, 425, 458, 481, 504, 537, 570, 603, 636, 669, 692, 715], 99) := by decide +kernel
theorem dL_law_132 : decode cL_law 132 = .ok (.aload_n 1, 1) := by decide +kernel
theorem dL_law_133 : decode cL_law 133 = .ok (.aload_n 0, 1) := by decide +kernel
theorem dL_law_134 : decode cL_law 134 = .ok (.iload_n 3, 1) := by decide +kernel
theorem dL_law_135 : decode cL_law 135 = .ok (.iconst 1, 1) := by decide +kernel
theorem dL_law_136 : decode cL_law 136 = .ok (.iadd, 1) := by decide +kernel
theorem dL_law_137 : decode cL_law 137 = .ok (.iaload, 1) := by decide +kernel
theorem dL_law_138 : decode cL_law 138 = .ok (.aload_n 0, 1) := by decide +kernel
theorem dL_law_139 : decode cL_law 139 = .ok (.iload_n 3, 1) := by decide +kernel
theorem dL_law_140 : decode cL_law 140 = .ok (.iconst 2, 1) := by decide +kernel
theorem dL_law_141 : decode cL_law 141 = .ok (.iadd, 1) := by decide +kernel
theorem dL_law_142 : decode cL_law 142 = .ok (.iaload, 1) := by decide +kernel
theorem dL_law_143 : decode cL_law 143 = .ok (.aload_n 0, 1) := by decide +kernel
theorem dL_law_144 : decode cL_law 144 = .ok (.iload_n 3, 1) := by decide +kernel
theorem dL_law_145 : decode cL_law 145 = .ok (.iconst 3, 1) := by decide +kernel
theorem dL_law_146 : decode cL_law 146 = .ok (.iadd, 1) := by decide +kernel
theorem dL_law_147 : decode cL_law 147 = .ok (.iaload, 1) := by decide +kernel
theorem dL_law_148 : decode cL_law 148 = .ok (.aload_n 0, 1) := by decide +kernel
theorem dL_law_149 : decode cL_law 149 = .ok (.iload_n 3, 1) := by decide +kernel
theorem dL_law_150 : decode cL_law 150 = .ok (.iconst 4, 1) := by decide +kernel
theorem dL_law_151 : decode cL_law 151 = .ok (.iadd, 1) := by decide +kernel
theorem dL_law_152 : decode cL_law 152 = .ok (.iaload, 1) := by decide +kernel
theorem dL_law_153 : decode cL_law 153 = .ok (.aload_n 0, 1) := by decide +kernel
theorem dL_law_154 : decode cL_law 154 = .ok (.iload_n 3, 1) := by decide +kernel
theorem dL_law_155 : decode cL_law 155 = .ok (.iconst 5, 1) := by decide +kernel
theorem dL_law_156 : decode cL_law 156 = .ok (.iadd, 1) := by decide +kernel
theorem dL_law_157 : decode cL_law 157 = .ok (.iaload, 1) := by decide +kernel
theorem dL_law_158 : decode cL_law 158 = .ok (.invokevirtual 13, 3) := by decide +kernel
theorem dL_law_161 : decode cL_law 161 = .ok (.pop, 1) := by decide +kernel
theorem dL_law_162 : decode cL_law 162 = .ok (.aload_n 2, 1) := by decide +kernel
theorem dL_law_163 : decode cL_law 163 = .ok (.aload_n 0, 1) := by decide +kernel
theorem dL_law_164 : decode cL_law 164 = .ok (.iload_n 3, 1) := by decide +kernel
theorem dL_law_165 : decode cL_law 165 = .ok (.iconst 1, 1) := by decide +kernel
theorem dL_law_166 : decode cL_law 166 = .ok (.iadd, 1) := by decide +kernel
theorem dL_law_167 : decode cL_law 167 = .ok (.iaload, 1) := by decide +kernel
theorem dL_law_168 : decode cL_law 168 = .ok (.aload_n 0, 1) := by decide +kernel
theorem dL_law_169 : decode cL_law 169 = .ok (.iload_n 3, 1) := by decide +kernel
theorem dL_law_170 : decode cL_law 170 = .ok (.iconst 2, 1) := by decide +kernel
theorem dL_law_171 : decode cL_law 171 = .ok (.iadd, 1) := by decide +kernel
theorem dL_law_172 : decode cL_law 172 = .ok (.iaload, 1) := by decide +kernel
theorem dL_law_173 : decode cL_law 173 = .ok (.aload_n 0, 1) := by decide +kernel
theorem dL_law_174 : decode cL_law 174 = .ok (.iload_n 3, 1) := by decide +kernel
theorem dL_law_175 : decode cL_law 175 = .ok (.iconst 3, 1) := by decide +kernel
theorem dL_law_176 : decode cL_law 176 = .ok (.iadd, 1) := by decide +kernel
theorem dL_law_177 : decode cL_law 177 = .ok (.iaload, 1) := by decide +kernel
theorem dL_law_178 : decode cL_law 178 = .ok (.aload_n 0, 1) := by decide +kernel
theorem dL_law_179 : decode cL_law 179 = .ok (.iload_n 3, 1) := by decide +kernel
theorem dL_law_180 : decode cL_law 180 = .ok (.iconst 4, 1) := by decide +kernel
theorem dL_law_181 : decode cL_law 181 = .ok (.iadd, 1) := by decide +kernel
theorem dL_law_182 : decode cL_law 182 = .ok (.iaload, 1) := by decide +kernel
theorem dL_law_183 : decode cL_law 183 = .ok (.aload_n 0, 1) := by decide +kernel
theorem dL_law_184 : decode cL_law 184 = .ok (.iload_n 3, 1) := by decide +kernel
theorem dL_law_185 : decode cL_law 185 = .ok (.iconst 5, 1) := by decide +kernel
theorem dL_law_186 : decode cL_law 186 = .ok (.iadd, 1) := by decide +kernel
theorem dL_law_187 : decode cL_law 187 = .ok (.iaload, 1) := by decide +kernel
theorem dL_law_188 : decode cL_law 188 = .ok (.invokevirtual 17, 3) := by decide +kernel
theorem dL_law_191 : decode cL_law 191 = .ok (.pop, 1) := by decide +kernel
theorem dL_law_192 : decode cL_law 192 = .ok (.goto 579, 3) := by decide +kernel
theorem dL_law_195 : decode cL_law 195 = .ok (.aload_n 1, 1) := by decide +kernel
theorem dL_law_196 : decode cL_law 196 = .ok (.aload_n 0, 1) := by decide +kernel
theorem dL_law_197 : decode cL_law 197 = .ok (.iload_n 3, 1) := by decide +kernel
theorem dL_law_198 : decode cL_law 198 = .ok (.iconst 1, 1) := by decide +kernel
theorem dL_law_199 : decode cL_law 199 = .ok (.iadd, 1) := by decide +kernel
theorem dL_law_200 : decode cL_law 200 = .ok (.iaload, 1) := by decide +kernel
theorem dL_law_201 : decode cL_law 201 = .ok (.invokevirtual 18, 3) := by decide +kernel
theorem dL_law_204 : decode cL_law 204 = .ok (.pop, 1) := by decide +kernel
theorem dL_law_205 : decode cL_law 205 = .ok (.aload_n 2, 1) := by decide +kernel
theorem dL_law_206 : decode cL_law 206 = .ok (.aload_n 0, 1) := by decide +kernel
theorem dL_law_207 : decode cL_law 207 = .ok (.iload_n 3, 1) := by decide +kernel
theorem dL_law_208 : decode cL_law 208 = .ok (.iconst 1, 1) := by decide +kernel
theorem dL_law_209 : decode cL_law 209 = .ok (.iadd, 1) := by decide +kernel
theorem dL_law_210 : decode cL_law 210 = .ok (.iaload, 1) := by decide +kernel
theorem dL_law_211 : decode cL_law 211 = .ok (.invokevirtual 22, 3) := by decide +kernel
theorem dL_law_214 : decode cL_law 214 = .ok (.pop, 1) := by decide +kernel
theorem dL_law_215 : decode cL_law 215 = .ok (.goto 556, 3) := by decide +kernel
theorem dL_law_218 : decode cL_law 218 = .ok (.aload_n 1, 1) := by decide +kernel
theorem dL_law_219 : decode cL_law 219 = .ok (.invokevirtual 23, 3) := by decide +kernel
theorem dL_law_222 : decode cL_law 222 = .ok (.pop, 1) := by decide +kernel
theorem dL_law_223 : decode cL_law 223 = .ok (.aload_n 2, 1) := by decide +kernel
theorem dL_law_224 : decode cL_law 224 = .ok (.invokevirtual 27, 3) := by decide +kernel
theorem dL_law_227 : decode cL_law 227 = .ok (.pop, 1) := by decide +kernel
theorem dL_law_228 : decode cL_law 228 = .ok (.goto 543, 3) := by decide +kernel
theorem dL_law_231 : decode cL_law 231 = .ok (.aload_n 1, 1) := by decide +kernel
theorem dL_law_232 : decode cL_law 232 = .ok (.invokevirtual 28, 3) := by decide +kernel
theorem dL_law_235 : decode cL_law 235 = .ok (.pop, 1) := by decide +kernel
theorem dL_law_236 : decode cL_law 236 = .ok (.aload_n 2, 1) := by decide +kernel
theorem dL_law_237 : decode cL_law 237 = .ok (.invokevirtual 31, 3) := by decide +kernel
theorem dL_law_240 : decode cL_law 240 = .ok (.pop, 1) := by decide +kernel
theorem dL_law_241 : decode cL_law 241 = .ok (.goto 530, 3) := by decide +kernel
theorem dL_law_244 : decode cL_law 244 = .ok (.aload_n 1, 1) := by decide +kernel
theorem dL_law_245 : decode cL_law 245 = .ok (.aload_n 0, 1) := by decide +kernel
theorem dL_law_246 : decode cL_law 246 = .ok (.iload_n 3, 1) := by decide +kernel
theorem dL_law_247 : decode cL_law 247 = .ok (.iconst 1, 1) := by decide +kernel
theorem dL_law_248 : decode cL_law 248 = .ok (.iadd, 1) := by decide +kernel
theorem dL_law_249 : decode cL_law 249 = .ok (.iaload, 1) := by decide +kernel
theorem dL_law_250 : decode cL_law 250 = .ok (.aload_n 0, 1) := by decide +kernel
theorem dL_law_251 : decode cL_law 251 = .ok (.iload_n 3, 1) := by decide +kernel
theorem dL_law_252 : decode cL_law 252 = .ok (.iconst 2, 1) := by decide +kernel
theorem dL_law_253 : decode cL_law 253 = .ok (.iadd, 1) := by decide +kernel
theorem dL_law_254 : decode cL_law 254 = .ok (.iaload, 1) := by decide +kernel
theorem dL_law_255 : decode cL_law 255 = .ok (.ifCond .eq 7, 3) := by decide +kernel
theorem dL_law_258 : decode cL_law 258 = .ok (.iconst 1, 1) := by decide +kernel
theorem dL_law_259 : decode cL_law 259 = .ok (.goto 4, 3) := by decide +kernel
theorem dL_law_262 : decode cL_law 262 = .ok (.iconst 0, 1) := by decide +kernel
theorem dL_law_263 : decode cL_law 263 = .ok (.invokevirtual 32, 3) := by decide +kernel
theorem dL_law_266 : decode cL_law 266 = .ok (.aload_n 2, 1) := by decide +kernel
theorem dL_law_267 : decode cL_law 267 = .ok (.aload_n 0, 1) := by decide +kernel
theorem dL_law_268 : decode cL_law 268 = .ok (.iload_n 3, 1) := by decide +kernel
theorem dL_law_269 : decode cL_law 269 = .ok (.iconst 1, 1) := by decide +kernel
theorem dL_law_270 : decode cL_law 270 = .ok (.iadd, 1) := by decide +kernel
theorem dL_law_271 : decode cL_law 271 = .ok (.iaload, 1) := by decide +kernel
theorem dL_law_272 : decode cL_law 272 = .ok (.aload_n 0, 1) := by decide +kernel
theorem dL_law_273 : decode cL_law 273 = .ok (.iload_n 3, 1) := by decide +kernel
theorem dL_law_274 : decode cL_law 274 = .ok (.iconst 2, 1) := by decide +kernel
theorem dL_law_275 : decode cL_law 275 = .ok (.iadd, 1) := by decide +kernel
theorem dL_law_276 : decode cL_law 276 = .ok (.iaload, 1) := by decide +kernel
theorem dL_law_277 : decode cL_law 277 = .ok (.ifCond .eq 7, 3) := by decide +kernel
theorem dL_law_280 : decode cL_law 280 = .ok (.iconst 1, 1) := by decide +kernel
theorem dL_law_281 : decode cL_law 281 = .ok (.goto 4, 3) := by decide +kernel
theorem dL_law_284 : decode cL_law 284 = .ok (.iconst 0, 1) := by decide +kernel
theorem dL_law_285 : decode cL_law 285 = .ok (.invokevirtual 36, 3) := by decide +kernel
theorem dL_law_288 : decode cL_law 288 = .ok (.if_icmp .eq 483, 3) := by decide +kernel
theorem dL_law_291 : decode cL_law 291 = .ok (.iconst 0, 1) := by decide +kernel
theorem dL_law_292 : decode cL_law 292 = .ok (.ireturn, 1) := by decide +kernel
theorem dL_law_293 : decode cL_law 293 = .ok (.aload_n 1, 1) := by decide +kernel
theorem dL_law_294 : decode cL_law 294 = .ok (.aload_n 0, 1) := by decide +kernel
theorem dL_law_295 : decode cL_law 295 = .ok (.iload_n 3, 1) := by decide +kernel
theorem dL_law_296 : decode cL_law 296 = .ok (.iconst 1, 1) := by decide +kernel
theorem dL_law_297 : decode cL_law 297 = .ok (.iadd, 1) := by decide +kernel
theorem dL_law_298 : decode cL_law 298 = .ok (.iaload, 1) := by decide +kernel
theorem dL_law_299 : decode cL_law 299 = .ok (.invokevirtual 37, 3) := by decide +kernel
theorem dL_law_302 : decode cL_law 302 = .ok (.pop, 1) := by decide +kernel
theorem dL_law_303 : decode cL_law 303 = .ok (.aload_n 2, 1) := by decide +kernel
theorem dL_law_304 : decode cL_law 304 = .ok (.aload_n 0, 1) := by decide +kernel
theorem dL_law_305 : decode cL_law 305 = .ok (.iload_n 3, 1) := by decide +kernel
theorem dL_law_306 : decode cL_law 306 = .ok (.iconst 1, 1) := by decide +kernel
theorem dL_law_307 : decode cL_law 307 = .ok (.iadd, 1) := by decide +kernel
theorem dL_law_308 : decode cL_law 308 = .ok (.iaload, 1) := by decide +kernel
theorem dL_law_309 : decode cL_law 309 = .ok (.invokevirtual 40, 3) := by decide +kernel
theorem dL_law_312 : decode cL_law 312 = .ok (.pop, 1) := by decide +kernel
theorem dL_law_313 : decode cL_law 313 = .ok (.goto 458, 3) := by decide +kernel
theorem dL_law_316 : decode cL_law 316 = .ok (.aload_n 1, 1) := by decide +kernel
theorem dL_law_317 : decode cL_law 317 = .ok (.aload_n 0, 1) := by decide +kernel
theorem dL_law_318 : decode cL_law 318 = .ok (.iload_n 3, 1) := by decide +kernel
theorem dL_law_319 : decode cL_law 319 = .ok (.iconst 1, 1) := by decide +kernel
theorem dL_law_320 : decode cL_law 320 = .ok (.iadd, 1) := by decide +kernel
theorem dL_law_321 : decode cL_law 321 = .ok (.iaload, 1) := by decide +kernel
theorem dL_law_322 : decode cL_law 322 = .ok (.aload_n 0, 1) := by decide +kernel
theorem dL_law_323 : decode cL_law 323 = .ok (.iload_n 3, 1) := by decide +kernel
theorem dL_law_324 : decode cL_law 324 = .ok (.iconst 2, 1) := by decide +kernel
theorem dL_law_325 : decode cL_law 325 = .ok (.iadd, 1) := by decide +kernel
theorem dL_law_326 : decode cL_law 326 = .ok (.iaload, 1) := by decide +kernel
theorem dL_law_327 : decode cL_law 327 = .ok (.invokevirtual 41, 3) := by decide +kernel
theorem dL_law_330 : decode cL_law 330 = .ok (.pop, 1) := by decide +kernel
theorem dL_law_331 : decode cL_law 331 = .ok (.aload_n 2, 1) := by decide +kernel
theorem dL_law_332 : decode cL_law 332 = .ok (.aload_n 0, 1) := by decide +kernel
theorem dL_law_333 : decode cL_law 333 = .ok (.iload_n 3, 1) := by decide +kernel
theorem dL_law_334 : decode cL_law 334 = .ok (.iconst 1, 1) := by decide +kernel
theorem dL_law_335 : decode cL_law 335 = .ok (.iadd, 1) := by decide +kernel
theorem dL_law_336 : decode cL_law 336 = .ok (.iaload, 1) := by decide +kernel
theorem dL_law_337 : decode cL_law 337 = .ok (.aload_n 0, 1) := by decide +kernel
theorem dL_law_338 : decode cL_law 338 = .ok (.iload_n 3, 1) := by decide +kernel
theorem dL_law_339 : decode cL_law 339 = .ok (.iconst 2, 1) := by decide +kernel
theorem dL_law_340 : decode cL_law 340 = .ok (.iadd, 1) := by decide +kernel
theorem dL_law_341 : decode cL_law 341 = .ok (.iaload, 1) := by decide +kernel
theorem dL_law_342 : decode cL_law 342 = .ok (.invokevirtual 45, 3) := by decide +kernel
theorem dL_law_345 : decode cL_law 345 = .ok (.pop, 1) := by decide +kernel
theorem dL_law_346 : decode cL_law 346 = .ok (.goto 425, 3) := by decide +kernel
theorem dL_law_349 : decode cL_law 349 = .ok (.aload_n 1, 1) := by decide +kernel
theorem dL_law_350 : decode cL_law 350 = .ok (.aload_n 0, 1) := by decide +kernel
theorem dL_law_351 : decode cL_law 351 = .ok (.iload_n 3, 1) := by decide +kernel
theorem dL_law_352 : decode cL_law 352 = .ok (.iconst 1, 1) := by decide +kernel
theorem dL_law_353 : decode cL_law 353 = .ok (.iadd, 1) := by decide +kernel
theorem dL_law_354 : decode cL_law 354 = .ok (.iaload, 1) := by decide +kernel
theorem dL_law_355 : decode cL_law 355 = .ok (.aload_n 0, 1) := by decide +kernel
theorem dL_law_356 : decode cL_law 356 = .ok (.iload_n 3, 1) := by decide +kernel
theorem dL_law_357 : decode cL_law 357 = .ok (.iconst 2, 1) := by decide +kernel
theorem dL_law_358 : decode cL_law 358 = .ok (.iadd, 1) := by decide +kernel
theorem dL_law_359 : decode cL_law 359 = .ok (.iaload, 1) := by decide +kernel
theorem dL_law_360 : decode cL_law 360 = .ok (.aload_n 0, 1) := by decide +kernel
theorem dL_law_361 : decode cL_law 361 = .ok (.iload_n 3, 1) := by decide +kernel
theorem dL_law_362 : decode cL_law 362 = .ok (.iconst 3, 1) := by decide +kernel
theorem dL_law_363 : decode cL_law 363 = .ok (.iadd, 1) := by decide +kernel
theorem dL_law_364 : decode cL_law 364 = .ok (.iaload, 1) := by decide +kernel
theorem dL_law_365 : decode cL_law 365 = .ok (.invokevirtual 46, 3) := by decide +kernel
theorem dL_law_368 : decode cL_law 368 = .ok (.pop, 1) := by decide +kernel
theorem dL_law_369 : decode cL_law 369 = .ok (.aload_n 2, 1) := by decide +kernel
theorem dL_law_370 : decode cL_law 370 = .ok (.aload_n 0, 1) := by decide +kernel
theorem dL_law_371 : decode cL_law 371 = .ok (.iload_n 3, 1) := by decide +kernel
theorem dL_law_372 : decode cL_law 372 = .ok (.iconst 1, 1) := by decide +kernel
theorem dL_law_373 : decode cL_law 373 = .ok (.iadd, 1) := by decide +kernel
theorem dL_law_374 : decode cL_law 374 = .ok (.iaload, 1) := by decide +kernel
theorem dL_law_375 : decode cL_law 375 = .ok (.aload_n 0, 1) := by decide +kernel
theorem dL_law_376 : decode cL_law 376 = .ok (.iload_n 3, 1) := by decide +kernel
theorem dL_law_377 : decode cL_law 377 = .ok (.iconst 2, 1) := by decide +kernel
theorem dL_law_378 : decode cL_law 378 = .ok (.iadd, 1) := by decide +kernel
theorem dL_law_379 : decode cL_law 379 = .ok (.iaload, 1) := by decide +kernel
theorem dL_law_380 : decode cL_law 380 = .ok (.aload_n 0, 1) := by decide +kernel
theorem dL_law_381 : decode cL_law 381 = .ok (.iload_n 3, 1) := by decide +kernel
theorem dL_law_382 : decode cL_law 382 = .ok (.iconst 3, 1) := by decide +kernel
theorem dL_law_383 : decode cL_law 383 = .ok (.iadd, 1) := by decide +kernel
theorem dL_law_384 : decode cL_law 384 = .ok (.iaload, 1) := by decide +kernel
theorem dL_law_385 : decode cL_law 385 = .ok (.invokevirtual 50, 3) := by decide +kernel
theorem dL_law_388 : decode cL_law 388 = .ok (.pop, 1) := by decide +kernel
theorem dL_law_389 : decode cL_law 389 = .ok (.goto 382, 3) := by decide +kernel
theorem dL_law_392 : decode cL_law 392 = .ok (.aload_n 1, 1) := by decide +kernel
theorem dL_law_393 : decode cL_law 393 = .ok (.aload_n 0, 1) := by decide +kernel
theorem dL_law_394 : decode cL_law 394 = .ok (.iload_n 3, 1) := by decide +kernel
theorem dL_law_395 : decode cL_law 395 = .ok (.iconst 1, 1) := by decide +kernel
theorem dL_law_396 : decode cL_law 396 = .ok (.iadd, 1) := by decide +kernel
theorem dL_law_397 : decode cL_law 397 = .ok (.iaload, 1) := by decide +kernel
theorem dL_law_398 : decode cL_law 398 = .ok (.aload_n 0, 1) := by decide +kernel
theorem dL_law_399 : decode cL_law 399 = .ok (.iload_n 3, 1) := by decide +kernel
theorem dL_law_400 : decode cL_law 400 = .ok (.iconst 2, 1) := by decide +kernel
theorem dL_law_401 : decode cL_law 401 = .ok (.iadd, 1) := by decide +kernel
theorem dL_law_402 : decode cL_law 402 = .ok (.iaload, 1) := by decide +kernel
theorem dL_law_403 : decode cL_law 403 = .ok (.invokevirtual 51, 3) := by decide +kernel
theorem dL_law_406 : decode cL_law 406 = .ok (.pop, 1) := by decide +kernel
theorem dL_law_407 : decode cL_law 407 = .ok (.aload_n 2, 1) := by decide +kernel
theorem dL_law_408 : decode cL_law 408 = .ok (.aload_n 0, 1) := by decide +kernel
theorem dL_law_409 : decode cL_law 409 = .ok (.iload_n 3, 1) := by decide +kernel
theorem dL_law_410 : decode cL_law 410 = .ok (.iconst 1, 1) := by decide +kernel
theorem dL_law_411 : decode cL_law 411 = .ok (.iadd, 1) := by decide +kernel
theorem dL_law_412 : decode cL_law 412 = .ok (.iaload, 1) := by decide +kernel
theorem dL_law_413 : decode cL_law 413 = .ok (.aload_n 0, 1) := by decide +kernel
theorem dL_law_414 : decode cL_law 414 = .ok (.iload_n 3, 1) := by decide +kernel
theorem dL_law_415 : decode cL_law 415 = .ok (.iconst 2, 1) := by decide +kernel
theorem dL_law_416 : decode cL_law 416 = .ok (.iadd, 1) := by decide +kernel
theorem dL_law_417 : decode cL_law 417 = .ok (.iaload, 1) := by decide +kernel
theorem dL_law_418 : decode cL_law 418 = .ok (.invokevirtual 54, 3) := by decide +kernel
theorem dL_law_421 : decode cL_law 421 = .ok (.pop, 1) := by decide +kernel
theorem dL_law_422 : decode cL_law 422 = .ok (.goto 349, 3) := by decide +kernel
theorem dL_law_425 : decode cL_law 425 = .ok (.aload_n 1, 1) := by decide +kernel
theorem dL_law_426 : decode cL_law 426 = .ok (.aload_n 0, 1) := by decide +kernel
theorem dL_law_427 : decode cL_law 427 = .ok (.iload_n 3, 1) := by decide +kernel
theorem dL_law_428 : decode cL_law 428 = .ok (.iconst 1, 1) := by decide +kernel
theorem dL_law_429 : decode cL_law 429 = .ok (.iadd, 1) := by decide +kernel
theorem dL_law_430 : decode cL_law 430 = .ok (.iaload, 1) := by decide +kernel
theorem dL_law_431 : decode cL_law 431 = .ok (.aload_n 0, 1) := by decide +kernel
theorem dL_law_432 : decode cL_law 432 = .ok (.iload_n 3, 1) := by decide +kernel
theorem dL_law_433 : decode cL_law 433 = .ok (.iconst 2, 1) := by decide +kernel
theorem dL_law_434 : decode cL_law 434 = .ok (.iadd, 1) := by decide +kernel
theorem dL_law_435 : decode cL_law 435 = .ok (.iaload, 1) := by decide +kernel
theorem dL_law_436 : decode cL_law 436 = .ok (.invokevirtual 55, 3) := by decide +kernel
theorem dL_law_439 : decode cL_law 439 = .ok (.pop, 1) := by decide +kernel
theorem dL_law_440 : decode cL_law 440 = .ok (.aload_n 2, 1) := by decide +kernel
theorem dL_law_441 : decode cL_law 441 = .ok (.aload_n 0, 1) := by decide +kernel
theorem dL_law_442 : decode cL_law 442 = .ok (.iload_n 3, 1) := by decide +kernel
theorem dL_law_443 : decode cL_law 443 = .ok (.iconst 1, 1) := by decide +kernel
theorem dL_law_444 : decode cL_law 444 = .ok (.iadd, 1) := by decide +kernel
theorem dL_law_445 : decode cL_law 445 = .ok (.iaload, 1) := by decide +kernel
theorem dL_law_446 : decode cL_law 446 = .ok (.aload_n 0, 1) := by decide +kernel
theorem dL_law_447 : decode cL_law 447 = .ok (.iload_n 3, 1) := by decide +kernel
theorem dL_law_448 : decode cL_law 448 = .ok (.iconst 2, 1) := by decide +kernel
theorem dL_law_449 : decode cL_law 449 = .ok (.iadd, 1) := by decide +kernel
theorem dL_law_450 : decode cL_law 450 = .ok (.iaload, 1) := by decide +kernel
theorem dL_law_451 : decode cL_law 451 = .ok (.invokevirtual 58, 3) := by decide +kernel
theorem dL_law_454 : decode cL_law 454 = .ok (.pop, 1) := by decide +kernel
theorem dL_law_455 : decode cL_law 455 = .ok (.goto 316, 3) := by decide +kernel
theorem dL_law_458 : decode cL_law 458 = .ok (.aload_n 1, 1) := by decide +kernel
theorem dL_law_459 : decode cL_law 459 = .ok (.aload_n 0, 1) := by decide +kernel
theorem dL_law_460 : decode cL_law 460 = .ok (.iload_n 3, 1) := by decide +kernel
theorem dL_law_461 : decode cL_law 461 = .ok (.iconst 1, 1) := by decide +kernel
theorem dL_law_462 : decode cL_law 462 = .ok (.iadd, 1) := by decide +kernel
theorem dL_law_463 : decode cL_law 463 = .ok (.iaload, 1) := by decide +kernel
theorem dL_law_464 : decode cL_law 464 = .ok (.aload_n 0, 1) := by decide +kernel
theorem dL_law_465 : decode cL_law 465 = .ok (.iload_n 3, 1) := by decide +kernel
theorem dL_law_466 : decode cL_law 466 = .ok (.iconst 2, 1) := by decide +kernel
theorem dL_law_467 : decode cL_law 467 = .ok (.iadd, 1) := by decide +kernel
theorem dL_law_468 : decode cL_law 468 = .ok (.iaload, 1) := by decide +kernel
theorem dL_law_469 : decode cL_law 469 = .ok (.invokevirtual 59, 3) := by decide +kernel
theorem dL_law_472 : decode cL_law 472 = .ok (.pop, 1) := by decide +kernel
theorem dL_law_473 : decode cL_law 473 = .ok (.aload_n 2, 1) := by decide +kernel
theorem dL_law_474 : decode cL_law 474 = .ok (.aload_n 0, 1) := by decide +kernel
theorem dL_law_475 : decode cL_law 475 = .ok (.iload_n 3, 1) := by decide +kernel
theorem dL_law_476 : decode cL_law 476 = .ok (.iconst 1, 1) := by decide +kernel
theorem dL_law_477 : decode cL_law 477 = .ok (.iadd, 1) := by decide +kernel
theorem dL_law_478 : decode cL_law 478 = .ok (.iaload, 1) := by decide +kernel
theorem dL_law_479 : decode cL_law 479 = .ok (.aload_n 0, 1) := by decide +kernel
theorem dL_law_480 : decode cL_law 480 = .ok (.iload_n 3, 1) := by decide +kernel
theorem dL_law_481 : decode cL_law 481 = .ok (.iconst 2, 1) := by decide +kernel
theorem dL_law_482 : decode cL_law 482 = .ok (.iadd, 1) := by decide +kernel
theorem dL_law_483 : decode cL_law 483 = .ok (.iaload, 1) := by decide +kernel
theorem dL_law_484 : decode cL_law 484 = .ok (.invokevirtual 62, 3) := by decide +kernel
theorem dL_law_487 : decode cL_law 487 = .ok (.pop, 1) := by decide +kernel
theorem dL_law_488 : decode cL_law 488 = .ok (.goto 283, 3) := by decide +kernel
theorem dL_law_491 : decode cL_law 491 = .ok (.aload_n 1, 1) := by decide +kernel
theorem dL_law_492 : decode cL_law 492 = .ok (.aload_n 0, 1) := by decide +kernel
theorem dL_law_493 : decode cL_law 493 = .ok (.iload_n 3, 1) := by decide +kernel
theorem dL_law_494 : decode cL_law 494 = .ok (.iconst 1, 1) := by decide +kernel
theorem dL_law_495 : decode cL_law 495 = .ok (.iadd, 1) := by decide +kernel
theorem dL_law_496 : decode cL_law 496 = .ok (.iaload, 1) := by decide +kernel
theorem dL_law_497 : decode cL_law 497 = .ok (.invokevirtual 63, 3) := by decide +kernel
theorem dL_law_500 : decode cL_law 500 = .ok (.pop, 1) := by decide +kernel
theorem dL_law_501 : decode cL_law 501 = .ok (.aload_n 2, 1) := by decide +kernel
theorem dL_law_502 : decode cL_law 502 = .ok (.aload_n 0, 1) := by decide +kernel
theorem dL_law_503 : decode cL_law 503 = .ok (.iload_n 3, 1) := by decide +kernel
theorem dL_law_504 : decode cL_law 504 = .ok (.iconst 1, 1) := by decide +kernel
theorem dL_law_505 : decode cL_law 505 = .ok (.iadd, 1) := by decide +kernel
theorem dL_law_506 : decode cL_law 506 = .ok (.iaload, 1) := by decide +kernel
theorem dL_law_507 : decode cL_law 507 = .ok (.invokevirtual 66, 3) := by decide +kernel
theorem dL_law_510 : decode cL_law 510 = .ok (.pop, 1) := by decide +kernel
theorem dL_law_511 : decode cL_law 511 = .ok (.goto 260, 3) := by decide +kernel
theorem dL_law_514 : decode cL_law 514 = .ok (.aload_n 1, 1) := by decide +kernel
theorem dL_law_515 : decode cL_law 515 = .ok (.aload_n 0, 1) := by decide +kernel
theorem dL_law_516 : decode cL_law 516 = .ok (.iload_n 3, 1) := by decide +kernel
theorem dL_law_517 : decode cL_law 517 = .ok (.iconst 1, 1) := by decide +kernel
theorem dL_law_518 : decode cL_law 518 = .ok (.iadd, 1) := by decide +kernel
theorem dL_law_519 : decode cL_law 519 = .ok (.iaload, 1) := by decide +kernel
theorem dL_law_520 : decode cL_law 520 = .ok (.invokevirtual 67, 3) := by decide +kernel
theorem dL_law_523 : decode cL_law 523 = .ok (.pop, 1) := by decide +kernel
theorem dL_law_524 : decode cL_law 524 = .ok (.aload_n 2, 1) := by decide +kernel
theorem dL_law_525 : decode cL_law 525 = .ok (.aload_n 0, 1) := by decide +kernel
theorem dL_law_526 : decode cL_law 526 = .ok (.iload_n 3, 1) := by decide +kernel
theorem dL_law_527 : decode cL_law 527 = .ok (.iconst 1, 1) := by decide +kernel
theorem dL_law_528 : decode cL_law 528 = .ok (.iadd, 1) := by decide +kernel
theorem dL_law_529 : decode cL_law 529 = .ok (.iaload, 1) := by decide +kernel
theorem dL_law_530 : decode cL_law 530 = .ok (.invokevirtual 70, 3) := by decide +kernel
theorem dL_law_533 : decode cL_law 533 = .ok (.pop, 1) := by decide +kernel
theorem dL_law_534 : decode cL_law 534 = .ok (.goto 237, 3) := by decide +kernel
theorem dL_law_537 : decode cL_law 537 = .ok (.aload_n 1, 1) := by decide +kernel
theorem dL_law_538 : decode cL_law 538 = .ok (.aload_n 0, 1) := by decide +kernel
theorem dL_law_539 : decode cL_law 539 = .ok (.iload_n 3, 1) := by decide +kernel
theorem dL_law_540 : decode cL_law 540 = .ok (.iconst 1, 1) := by decide +kernel
theorem dL_law_541 : decode cL_law 541 = .ok (.iadd, 1) := by decide +kernel
theorem dL_law_542 : decode cL_law 542 = .ok (.iaload, 1) := by decide +kernel
theorem dL_law_543 : decode cL_law 543 = .ok (.aload_n 0, 1) := by decide +kernel
theorem dL_law_544 : decode cL_law 544 = .ok (.iload_n 3, 1) := by decide +kernel
theorem dL_law_545 : decode cL_law 545 = .ok (.iconst 2, 1) := by decide +kernel
theorem dL_law_546 : decode cL_law 546 = .ok (.iadd, 1) := by decide +kernel
theorem dL_law_547 : decode cL_law 547 = .ok (.iaload, 1) := by decide +kernel
theorem dL_law_548 : decode cL_law 548 = .ok (.invokevirtual 71, 3) := by decide +kernel
theorem dL_law_551 : decode cL_law 551 = .ok (.pop, 1) := by decide +kernel
theorem dL_law_552 : decode cL_law 552 = .ok (.aload_n 2, 1) := by decide +kernel
theorem dL_law_553 : decode cL_law 553 = .ok (.aload_n 0, 1) := by decide +kernel
theorem dL_law_554 : decode cL_law 554 = .ok (.iload_n 3, 1) := by decide +kernel
theorem dL_law_555 : decode cL_law 555 = .ok (.iconst 1, 1) := by decide +kernel
theorem dL_law_556 : decode cL_law 556 = .ok (.iadd, 1) := by decide +kernel
theorem dL_law_557 : decode cL_law 557 = .ok (.iaload, 1) := by decide +kernel
theorem dL_law_558 : decode cL_law 558 = .ok (.aload_n 0, 1) := by decide +kernel
theorem dL_law_559 : decode cL_law 559 = .ok (.iload_n 3, 1) := by decide +kernel
theorem dL_law_560 : decode cL_law 560 = .ok (.iconst 2, 1) := by decide +kernel
theorem dL_law_561 : decode cL_law 561 = .ok (.iadd, 1) := by decide +kernel
theorem dL_law_562 : decode cL_law 562 = .ok (.iaload, 1) := by decide +kernel
theorem dL_law_563 : decode cL_law 563 = .ok (.invokevirtual 74, 3) := by decide +kernel
theorem dL_law_566 : decode cL_law 566 = .ok (.pop, 1) := by decide +kernel
theorem dL_law_567 : decode cL_law 567 = .ok (.goto 204, 3) := by decide +kernel
theorem dL_law_570 : decode cL_law 570 = .ok (.aload_n 1, 1) := by decide +kernel
theorem dL_law_571 : decode cL_law 571 = .ok (.aload_n 0, 1) := by decide +kernel
theorem dL_law_572 : decode cL_law 572 = .ok (.iload_n 3, 1) := by decide +kernel
theorem dL_law_573 : decode cL_law 573 = .ok (.iconst 1, 1) := by decide +kernel
theorem dL_law_574 : decode cL_law 574 = .ok (.iadd, 1) := by decide +kernel
theorem dL_law_575 : decode cL_law 575 = .ok (.iaload, 1) := by decide +kernel
theorem dL_law_576 : decode cL_law 576 = .ok (.aload_n 0, 1) := by decide +kernel
theorem dL_law_577 : decode cL_law 577 = .ok (.iload_n 3, 1) := by decide +kernel
theorem dL_law_578 : decode cL_law 578 = .ok (.iconst 2, 1) := by decide +kernel
theorem dL_law_579 : decode cL_law 579 = .ok (.iadd, 1) := by decide +kernel
theorem dL_law_580 : decode cL_law 580 = .ok (.iaload, 1) := by decide +kernel
theorem dL_law_581 : decode cL_law 581 = .ok (.invokevirtual 75, 3) := by decide +kernel
theorem dL_law_584 : decode cL_law 584 = .ok (.pop, 1) := by decide +kernel
theorem dL_law_585 : decode cL_law 585 = .ok (.aload_n 2, 1) := by decide +kernel
theorem dL_law_586 : decode cL_law 586 = .ok (.aload_n 0, 1) := by decide +kernel
theorem dL_law_587 : decode cL_law 587 = .ok (.iload_n 3, 1) := by decide +kernel
theorem dL_law_588 : decode cL_law 588 = .ok (.iconst 1, 1) := by decide +kernel
theorem dL_law_589 : decode cL_law 589 = .ok (.iadd, 1) := by decide +kernel
theorem dL_law_590 : decode cL_law 590 = .ok (.iaload, 1) := by decide +kernel
theorem dL_law_591 : decode cL_law 591 = .ok (.aload_n 0, 1) := by decide +kernel
theorem dL_law_592 : decode cL_law 592 = .ok (.iload_n 3, 1) := by decide +kernel
theorem dL_law_593 : decode cL_law 593 = .ok (.iconst 2, 1) := by decide +kernel
theorem dL_law_594 : decode cL_law 594 = .ok (.iadd, 1) := by decide +kernel
theorem dL_law_595 : decode cL_law 595 = .ok (.iaload, 1) := by decide +kernel
theorem dL_law_596 : decode cL_law 596 = .ok (.invokevirtual 78, 3) := by decide +kernel
theorem dL_law_599 : decode cL_law 599 = .ok (.pop, 1) := by decide +kernel
theorem dL_law_600 : decode cL_law 600 = .ok (.goto 171, 3) := by decide +kernel
theorem dL_law_603 : decode cL_law 603 = .ok (.aload_n 1, 1) := by decide +kernel
theorem dL_law_604 : decode cL_law 604 = .ok (.aload_n 0, 1) := by decide +kernel
theorem dL_law_605 : decode cL_law 605 = .ok (.iload_n 3, 1) := by decide +kernel
theorem dL_law_606 : decode cL_law 606 = .ok (.iconst 1, 1) := by decide +kernel
theorem dL_law_607 : decode cL_law 607 = .ok (.iadd, 1) := by decide +kernel
theorem dL_law_608 : decode cL_law 608 = .ok (.iaload, 1) := by decide +kernel
theorem dL_law_609 : decode cL_law 609 = .ok (.aload_n 0, 1) := by decide +kernel
theorem dL_law_610 : decode cL_law 610 = .ok (.iload_n 3, 1) := by decide +kernel
theorem dL_law_611 : decode cL_law 611 = .ok (.iconst 2, 1) := by decide +kernel
theorem dL_law_612 : decode cL_law 612 = .ok (.iadd, 1) := by decide +kernel
theorem dL_law_613 : decode cL_law 613 = .ok (.iaload, 1) := by decide +kernel
theorem dL_law_614 : decode cL_law 614 = .ok (.invokevirtual 79, 3) := by decide +kernel
theorem dL_law_617 : decode cL_law 617 = .ok (.pop, 1) := by decide +kernel
theorem dL_law_618 : decode cL_law 618 = .ok (.aload_n 2, 1) := by decide +kernel
theorem dL_law_619 : decode cL_law 619 = .ok (.aload_n 0, 1) := by decide +kernel
theorem dL_law_620 : decode cL_law 620 = .ok (.iload_n 3, 1) := by decide +kernel
theorem dL_law_621 : decode cL_law 621 = .ok (.iconst 1, 1) := by decide +kernel
theorem dL_law_622 : decode cL_law 622 = .ok (.iadd, 1) := by decide +kernel
theorem dL_law_623 : decode cL_law 623 = .ok (.iaload, 1) := by decide +kernel
theorem dL_law_624 : decode cL_law 624 = .ok (.aload_n 0, 1) := by decide +kernel
theorem dL_law_625 : decode cL_law 625 = .ok (.iload_n 3, 1) := by decide +kernel
theorem dL_law_626 : decode cL_law 626 = .ok (.iconst 2, 1) := by decide +kernel
theorem dL_law_627 : decode cL_law 627 = .ok (.iadd, 1) := by decide +kernel
theorem dL_law_628 : decode cL_law 628 = .ok (.iaload, 1) := by decide +kernel
theorem dL_law_629 : decode cL_law 629 = .ok (.invokevirtual 82, 3) := by decide +kernel
theorem dL_law_632 : decode cL_law 632 = .ok (.pop, 1) := by decide +kernel
theorem dL_law_633 : decode cL_law 633 = .ok (.goto 138, 3) := by decide +kernel
theorem dL_law_636 : decode cL_law 636 = .ok (.aload_n 1, 1) := by decide +kernel
theorem dL_law_637 : decode cL_law 637 = .ok (.aload_n 0, 1) := by decide +kernel
theorem dL_law_638 : decode cL_law 638 = .ok (.iload_n 3, 1) := by decide +kernel
theorem dL_law_639 : decode cL_law 639 = .ok (.iconst 1, 1) := by decide +kernel
theorem dL_law_640 : decode cL_law 640 = .ok (.iadd, 1) := by decide +kernel
theorem dL_law_641 : decode cL_law 641 = .ok (.iaload, 1) := by decide +kernel
theorem dL_law_642 : decode cL_law 642 = .ok (.aload_n 0, 1) := by decide +kernel
theorem dL_law_643 : decode cL_law 643 = .ok (.iload_n 3, 1) := by decide +kernel
theorem dL_law_644 : decode cL_law 644 = .ok (.iconst 2, 1) := by decide +kernel
theorem dL_law_645 : decode cL_law 645 = .ok (.iadd, 1) := by decide +kernel
theorem dL_law_646 : decode cL_law 646 = .ok (.iaload, 1) := by decide +kernel
theorem dL_law_647 : decode cL_law 647 = .ok (.invokevirtual 83, 3) := by decide +kernel
theorem dL_law_650 : decode cL_law 650 = .ok (.pop, 1) := by decide +kernel
theorem dL_law_651 : decode cL_law 651 = .ok (.aload_n 2, 1) := by decide +kernel
theorem dL_law_652 : decode cL_law 652 = .ok (.aload_n 0, 1) := by decide +kernel
theorem dL_law_653 : decode cL_law 653 = .ok (.iload_n 3, 1) := by decide +kernel
theorem dL_law_654 : decode cL_law 654 = .ok (.iconst 1, 1) := by decide +kernel
theorem dL_law_655 : decode cL_law 655 = .ok (.iadd, 1) := by decide +kernel
theorem dL_law_656 : decode cL_law 656 = .ok (.iaload, 1) := by decide +kernel
theorem dL_law_657 : decode cL_law 657 = .ok (.aload_n 0, 1) := by decide +kernel
theorem dL_law_658 : decode cL_law 658 = .ok (.iload_n 3, 1) := by decide +kernel
theorem dL_law_659 : decode cL_law 659 = .ok (.iconst 2, 1) := by decide +kernel
theorem dL_law_660 : decode cL_law 660 = .ok (.iadd, 1) := by decide +kernel
theorem dL_law_661 : decode cL_law 661 = .ok (.iaload, 1) := by decide +kernel
theorem dL_law_662 : decode cL_law 662 = .ok (.invokevirtual 86, 3) := by decide +kernel
theorem dL_law_665 : decode cL_law 665 = .ok (.pop, 1) := by decide +kernel
theorem dL_law_666 : decode cL_law 666 = .ok (.goto 105, 3) := by decide +kernel
theorem dL_law_669 : decode cL_law 669 = .ok (.aload_n 1, 1) := by decide +kernel
theorem dL_law_670 : decode cL_law 670 = .ok (.aload_n 0, 1) := by decide +kernel
theorem dL_law_671 : decode cL_law 671 = .ok (.iload_n 3, 1) := by decide +kernel
theorem dL_law_672 : decode cL_law 672 = .ok (.iconst 1, 1) := by decide +kernel
theorem dL_law_673 : decode cL_law 673 = .ok (.iadd, 1) := by decide +kernel
theorem dL_law_674 : decode cL_law 674 = .ok (.iaload, 1) := by decide +kernel
theorem dL_law_675 : decode cL_law 675 = .ok (.aload_n 0, 1) := by decide +kernel
theorem dL_law_676 : decode cL_law 676 = .ok (.iload_n 3, 1) := by decide +kernel
theorem dL_law_677 : decode cL_law 677 = .ok (.iconst 2, 1) := by decide +kernel
theorem dL_law_678 : decode cL_law 678 = .ok (.iadd, 1) := by decide +kernel
theorem dL_law_679 : decode cL_law 679 = .ok (.iaload, 1) := by decide +kernel
theorem dL_law_680 : decode cL_law 680 = .ok (.invokevirtual 87, 3) := by decide +kernel
theorem dL_law_683 : decode cL_law 683 = .ok (.pop, 1) := by decide +kernel
theorem dL_law_684 : decode cL_law 684 = .ok (.aload_n 2, 1) := by decide +kernel
theorem dL_law_685 : decode cL_law 685 = .ok (.aload_n 0, 1) := by decide +kernel
theorem dL_law_686 : decode cL_law 686 = .ok (.iload_n 3, 1) := by decide +kernel
theorem dL_law_687 : decode cL_law 687 = .ok (.iconst 1, 1) := by decide +kernel
theorem dL_law_688 : decode cL_law 688 = .ok (.iadd, 1) := by decide +kernel
theorem dL_law_689 : decode cL_law 689 = .ok (.iaload, 1) := by decide +kernel
theorem dL_law_690 : decode cL_law 690 = .ok (.aload_n 0, 1) := by decide +kernel
theorem dL_law_691 : decode cL_law 691 = .ok (.iload_n 3, 1) := by decide +kernel
theorem dL_law_692 : decode cL_law 692 = .ok (.iconst 2, 1) := by decide +kernel
theorem dL_law_693 : decode cL_law 693 = .ok (.iadd, 1) := by decide +kernel
theorem dL_law_694 : decode cL_law 694 = .ok (.iaload, 1) := by decide +kernel
theorem dL_law_695 : decode cL_law 695 = .ok (.invokevirtual 90, 3) := by decide +kernel
theorem dL_law_698 : decode cL_law 698 = .ok (.pop, 1) := by decide +kernel
theorem dL_law_699 : decode cL_law 699 = .ok (.goto 72, 3) := by decide +kernel
theorem dL_law_702 : decode cL_law 702 = .ok (.aload_n 1, 1) := by decide +kernel
theorem dL_law_703 : decode cL_law 703 = .ok (.aload_n 0, 1) := by decide +kernel
theorem dL_law_704 : decode cL_law 704 = .ok (.iload_n 3, 1) := by decide +kernel
theorem dL_law_705 : decode cL_law 705 = .ok (.iconst 1, 1) := by decide +kernel
theorem dL_law_706 : decode cL_law 706 = .ok (.iadd, 1) := by decide +kernel
theorem dL_law_707 : decode cL_law 707 = .ok (.iaload, 1) := by decide +kernel
theorem dL_law_708 : decode cL_law 708 = .ok (.invokevirtual 91, 3) := by decide +kernel
theorem dL_law_711 : decode cL_law 711 = .ok (.pop, 1) := by decide +kernel
theorem dL_law_712 : decode cL_law 712 = .ok (.aload_n 2, 1) := by decide +kernel
theorem dL_law_713 : decode cL_law 713 = .ok (.aload_n 0, 1) := by decide +kernel
theorem dL_law_714 : decode cL_law 714 = .ok (.iload_n 3, 1) := by decide +kernel
theorem dL_law_715 : decode cL_law 715 = .ok (.iconst 1, 1) := by decide +kernel
theorem dL_law_716 : decode cL_law 716 = .ok (.iadd, 1) := by decide +kernel
theorem dL_law_717 : decode cL_law 717 = .ok (.iaload, 1) := by decide +kernel
theorem dL_law_718 : decode cL_law 718 = .ok (.invokevirtual 95, 3) := by decide +kernel
theorem dL_law_721 : decode cL_law 721 = .ok (.pop, 1) := by decide +kernel
theorem dL_law_722 : decode cL_law 722 = .ok (.goto 49, 3) := by decide +kernel
theorem dL_law_725 : decode cL_law 725 = .ok (.aload_n 1, 1) := by decide +kernel
theorem dL_law_726 : decode cL_law 726 = .ok (.aload_n 0, 1) := by decide +kernel
theorem dL_law_727 : decode cL_law 727 = .ok (.iload_n 3, 1) := by decide +kernel
theorem dL_law_728 : decode cL_law 728 = .ok (.iconst 1, 1) := by decide +kernel
theorem dL_law_729 : decode cL_law 729 = .ok (.iadd, 1) := by decide +kernel
theorem dL_law_730 : decode cL_law 730 = .ok (.iaload, 1) := by decide +kernel
theorem dL_law_731 : decode cL_law 731 = .ok (.invokevirtual 96, 3) := by decide +kernel
theorem dL_law_734 : decode cL_law 734 = .ok (.pop, 1) := by decide +kernel
theorem dL_law_735 : decode cL_law 735 = .ok (.aload_n 2, 1) := by decide +kernel
theorem dL_law_736 : decode cL_law 736 = .ok (.aload_n 0, 1) := by decide +kernel
theorem dL_law_737 : decode cL_law 737 = .ok (.iload_n 3, 1) := by decide +kernel
theorem dL_law_738 : decode cL_law 738 = .ok (.iconst 1, 1) := by decide +kernel
theorem dL_law_739 : decode cL_law 739 = .ok (.iadd, 1) := by decide +kernel
theorem dL_law_740 : decode cL_law 740 = .ok (.iaload, 1) := by decide +kernel
theorem dL_law_741 : decode cL_law 741 = .ok (.invokevirtual 99, 3) := by decide +kernel
theorem dL_law_744 : decode cL_law 744 = .ok (.pop, 1) := by decide +kernel
theorem dL_law_745 : decode cL_law 745 = .ok (.goto 26, 3) := by decide +kernel
theorem dL_law_748 : decode cL_law 748 = .ok (.aload_n 1, 1) := by decide +kernel
theorem dL_law_749 : decode cL_law 749 = .ok (.aload_n 0, 1) := by decide +kernel
theorem dL_law_750 : decode cL_law 750 = .ok (.iload_n 3, 1) := by decide +kernel
theorem dL_law_751 : decode cL_law 751 = .ok (.iconst 1, 1) := by decide +kernel
theorem dL_law_752 : decode cL_law 752 = .ok (.iadd, 1) := by decide +kernel
theorem dL_law_753 : decode cL_law 753 = .ok (.iaload, 1) := by decide +kernel
theorem dL_law_754 : decode cL_law 754 = .ok (.invokevirtual 100, 3) := by decide +kernel
theorem dL_law_757 : decode cL_law 757 = .ok (.pop, 1) := by decide +kernel
theorem dL_law_758 : decode cL_law 758 = .ok (.aload_n 2, 1) := by decide +kernel
theorem dL_law_759 : decode cL_law 759 = .ok (.aload_n 0, 1) := by decide +kernel
theorem dL_law_760 : decode cL_law 760 = .ok (.iload_n 3, 1) := by decide +kernel
theorem dL_law_761 : decode cL_law 761 = .ok (.iconst 1, 1) := by decide +kernel
theorem dL_law_762 : decode cL_law 762 = .ok (.iadd, 1) := by decide +kernel
theorem dL_law_763 : decode cL_law 763 = .ok (.iaload, 1) := by decide +kernel
theorem dL_law_764 : decode cL_law 764 = .ok (.invokevirtual 103, 3) := by decide +kernel
theorem dL_law_767 : decode cL_law 767 = .ok (.pop, 1) := by decide +kernel
theorem dL_law_768 : decode cL_law 768 = .ok (.goto 3, 3) := by decide +kernel
theorem dL_law_771 : decode cL_law 771 = .ok (.iinc 3 6, 3) := by decide +kernel
theorem dL_law_774 : decode cL_law 774 = .ok (.goto (-756), 3) := by decide +kernel
theorem dL_law_777 : decode cL_law 777 = .ok (.iconst 1, 1) := by decide +kernel
theorem dL_law_778 : decode cL_law 778 = .ok (.ireturn, 1) := by decide +kernel
set_option maxRecDepth 100000 in
def fL_law_J771 (N : Nat) (L : Nat) (xs : Nat → Int32)  (n0 s0 : Nat) (K18 : Nat × Nat × Int32 × Gs × Ds → Option (Unit × Ds)) (y1 : Nat) (y2 : Nat) (y3 : Int32) (g : Gs) (d : Ds) : Option (Unit × Ds) := bd (y3 + 6) fun u31 => (K18 (y1, y2, u31, g, d))
set_option maxHeartbeats 4000000 in
set_option maxRecDepth 100000 in
theorem tL_law_771 {p : Program} {l : Launch} {e : Env} {s : State} {m : MethodId} {below : List Frame} {meth : Method} {c : Code} {D : va_G} {cy : Nat → ClassId} {B : Bs} {b L : Nat} {xs : Nat → Int32} {n0 s0 : Nat} (C : Cx p s m #[Value.ref b] c code 4 RL D cy B) (hX : va_X b L xs s s.heap) (hbl : b < s.heap.size) (hbA : ¬ wA B b) (hr : meth.sig.returnType = ret) (hlocks : meth.locks = false) (hz : s.heap.size = B.1 + n0) (hB0 : s.heap.size ≤ B.1) {N : Nat}  {dz : Ds} {K18 : Nat × Nat × Int32 × Gs × Ds → Option (Unit × Ds)} (hK18 : ∀ a, K18 a = some ((), dz) → n0 ≤ gN a.2.2.2.1 → s0 ≤ gS a.2.2.2.1 → WB p l e room_1 s m #[Value.ref b] below meth c 4 D cy B (gN a.2.2.2.1 - n0) (gS a.2.2.2.1 - s0) (lw_Z below #[Value.ref b] s) a.2.2.2.1 a.2.2.2.2 [(0, .ref b), (1, .ref (ad B a.1)), (2, .ref (ad B a.2.1)), (3, .int a.2.2.1)] 18 []) {y1 : Nat} {y2 : Nat} {y3 : Int32} {g : Gs} {d : Ds} (hn : n0 ≤ gN g) (hs : s0 ≤ gS g) (hf : fL_law_J771 N L xs n0 s0 K18 y1 y2 y3 g d = some ((), dz)) : WB p l e room_1 s m #[Value.ref b] below meth c 4 D cy B (gN g - n0) (gS g - s0) (lw_Z below #[Value.ref b] s) g d [(0, .ref b), (1, .ref (ad B y1)), (2, .ref (ad B y2)), (3, .int y3)] 771 [] := by
  unfold fL_law_J771 at hf
  obtain ⟨u31, eu31, hf⟩ := bd_s hf
  refine b_iinc C dL_law_771 3 rfl (by rw [eu31]; rfl) [(3, .int u31), (0, .ref b), (1, .ref (ad B y1)), (2, .ref (ad B y2))] (by decide) rfl ?_
  refine b_goto C (tgt := 18) dL_law_774 (by decide) ?_
  refine b_sub [(0, .ref b), (1, .ref (ad B y1)), (2, .ref (ad B y2)), (3, .int u31)] [1, 2, 3, 0] rfl ?_
  exact hK18 (y1, y2, u31, g, d) hf hn hs
set_option maxRecDepth 100000 in
def fL_law_J205 (N : Nat) (L : Nat) (xs : Nat → Int32)  (n0 s0 : Nat) (K18 : Nat × Nat × Int32 × Gs × Ds → Option (Unit × Ds)) (y1 : Nat) (y2 : Nat) (y3 : Int32) (g : Gs) (d : Ds) : Option (Unit × Ds) := gd (¬ ((y3 + 1) < 0 ∨ L ≤ (y3 + 1).toNatClampNeg)) <| gd (chk g y2 11) <| gd (gN g - n0 ≤ 600000 ∧ gS g - s0 ≤ 7302250) <| cb (fX12_back N g y2 (xs (y3 + 1).toNatClampNeg) d) fun u59 d57 => (fL_law_J771 N L xs n0 s0 K18 y1 y2 y3 g d57)
set_option maxHeartbeats 4000000 in
set_option maxRecDepth 100000 in
theorem tL_law_205 {p : Program} {l : Launch} {e : Env} {s : State} {m : MethodId} {below : List Frame} {meth : Method} {c : Code} {D : va_G} {cy : Nat → ClassId} {B : Bs} {b L : Nat} {xs : Nat → Int32} {n0 s0 : Nat} (C : Cx p s m #[Value.ref b] c code 4 RL D cy B) (hX : va_X b L xs s s.heap) (hbl : b < s.heap.size) (hbA : ¬ wA B b) (hr : meth.sig.returnType = ret) (hlocks : meth.locks = false) (hz : s.heap.size = B.1 + n0) (hB0 : s.heap.size ≤ B.1) {N : Nat}  {dz : Ds} {K18 : Nat × Nat × Int32 × Gs × Ds → Option (Unit × Ds)} (hK18 : ∀ a, K18 a = some ((), dz) → n0 ≤ gN a.2.2.2.1 → s0 ≤ gS a.2.2.2.1 → WB p l e room_1 s m #[Value.ref b] below meth c 4 D cy B (gN a.2.2.2.1 - n0) (gS a.2.2.2.1 - s0) (lw_Z below #[Value.ref b] s) a.2.2.2.1 a.2.2.2.2 [(0, .ref b), (1, .ref (ad B a.1)), (2, .ref (ad B a.2.1)), (3, .int a.2.2.1)] 18 []) {y1 : Nat} {y2 : Nat} {y3 : Int32} {g : Gs} {d : Ds} (hn : n0 ≤ gN g) (hs : s0 ≤ gS g) (hf : fL_law_J205 N L xs n0 s0 K18 y1 y2 y3 g d = some ((), dz)) : WB p l e room_1 s m #[Value.ref b] below meth c 4 D cy B (gN g - n0) (gS g - s0) (lw_Z below #[Value.ref b] s) g d [(0, .ref b), (1, .ref (ad B y1)), (2, .ref (ad B y2)), (3, .int y3)] 205 [] := by
  unfold fL_law_J205 at hf
  refine b_aload_n C dL_law_205 2 rfl rfl ?_
  refine b_aload_n C dL_law_206 0 rfl rfl ?_
  refine b_iload_n C dL_law_207 3 rfl rfl ?_
  refine b_iconst C (v := 1) dL_law_208 (by decide) ?_
  refine b_iadd C dL_law_209 ?_
  obtain ⟨h54, hf⟩ := gd_s hf
  refine b_sld C hX hbl hbA h54 dL_law_210 ?_
  obtain ⟨h55, hf⟩ := gd_s hf
  obtain ⟨h56, hf⟩ := gd_s hf
  obtain ⟨u59, d57, k58, hf⟩ := cb_s hf
  refine b_cVI C [] dL_law_211 (kX12_back l D cy B k58) lv_L_22 ⟨rfl, rfl, Nat.le_of_ble_eq_true rfl, Nat.le_of_ble_eq_true rfl⟩ h55 (by decide) rfl (Nat.le_of_ble_eq_true rfl) h56 rfl ?_
  refine b_popI C dL_law_214 ?_
  refine b_goto C (tgt := 771) dL_law_215 (by decide) ?_
  refine b_sub [(0, .ref b), (1, .ref (ad B y1)), (2, .ref (ad B y2)), (3, .int y3)] [0, 1, 2, 3] rfl ?_
  exact tL_law_771 C hX hbl hbA hr hlocks hz hB0 hK18 hn hs hf
set_option maxRecDepth 100000 in
def fL_law_J285 (N : Nat) (L : Nat) (xs : Nat → Int32)  (n0 s0 : Nat) (K18 : Nat × Nat × Int32 × Gs × Ds → Option (Unit × Ds)) (y1 : Nat) (y2 : Nat) (y3 : Int32) (z0 : Int32) (z1 : Int32) (z2 : Nat) (z3 : Int32) (g : Gs) (d : Ds) : Option (Unit × Ds) := gd (chk g z2 11) <| gd (gN g - n0 ≤ 600000 ∧ gS g - s0 ≤ 7302250) <| cb (fX12_press N g z2 z1 z0 d) fun u96 d94 => (if z3 = u96 then (fL_law_J771 N L xs n0 s0 K18 y1 y2 y3 g d94) else (none))
set_option maxHeartbeats 4000000 in
set_option maxRecDepth 100000 in
theorem tL_law_285 {p : Program} {l : Launch} {e : Env} {s : State} {m : MethodId} {below : List Frame} {meth : Method} {c : Code} {D : va_G} {cy : Nat → ClassId} {B : Bs} {b L : Nat} {xs : Nat → Int32} {n0 s0 : Nat} (C : Cx p s m #[Value.ref b] c code 4 RL D cy B) (hX : va_X b L xs s s.heap) (hbl : b < s.heap.size) (hbA : ¬ wA B b) (hr : meth.sig.returnType = ret) (hlocks : meth.locks = false) (hz : s.heap.size = B.1 + n0) (hB0 : s.heap.size ≤ B.1) {N : Nat}  {dz : Ds} {K18 : Nat × Nat × Int32 × Gs × Ds → Option (Unit × Ds)} (hK18 : ∀ a, K18 a = some ((), dz) → n0 ≤ gN a.2.2.2.1 → s0 ≤ gS a.2.2.2.1 → WB p l e room_1 s m #[Value.ref b] below meth c 4 D cy B (gN a.2.2.2.1 - n0) (gS a.2.2.2.1 - s0) (lw_Z below #[Value.ref b] s) a.2.2.2.1 a.2.2.2.2 [(0, .ref b), (1, .ref (ad B a.1)), (2, .ref (ad B a.2.1)), (3, .int a.2.2.1)] 18 []) {y1 : Nat} {y2 : Nat} {y3 : Int32} {z0 : Int32} {z1 : Int32} {z2 : Nat} {z3 : Int32} {g : Gs} {d : Ds} (hn : n0 ≤ gN g) (hs : s0 ≤ gS g) (hf : fL_law_J285 N L xs n0 s0 K18 y1 y2 y3 z0 z1 z2 z3 g d = some ((), dz)) : WB p l e room_1 s m #[Value.ref b] below meth c 4 D cy B (gN g - n0) (gS g - s0) (lw_Z below #[Value.ref b] s) g d [(0, .ref b), (1, .ref (ad B y1)), (2, .ref (ad B y2)), (3, .int y3)] 285 [.int z0, .int z1, .ref (ad B z2), .int z3] := by
  unfold fL_law_J285 at hf
  obtain ⟨h92, hf⟩ := gd_s hf
  obtain ⟨h93, hf⟩ := gd_s hf
  obtain ⟨u96, d94, k95, hf⟩ := cb_s hf
  refine b_cVI C [.int z3] dL_law_285 (kX12_press l D cy B k95) lv_L_36 ⟨rfl, rfl, Nat.le_of_ble_eq_true rfl, Nat.le_of_ble_eq_true rfl⟩ h92 (by decide) rfl (Nat.le_of_ble_eq_true rfl) h93 rfl ?_
  refine b_icmp_eq C (tgt := 771) dL_law_288 (by decide) (fun c97 => ?_) (fun c97 => ?_)
  · have hf := it_s c97 hf
    refine b_sub [(0, .ref b), (1, .ref (ad B y1)), (2, .ref (ad B y2)), (3, .int y3)] [0, 1, 2, 3] rfl ?_
    exact tL_law_771 C hX hbl hbA hr hlocks hz hB0 hK18 hn hs hf
  · have hf := if_s c97 hf
    refine b_iconst C (v := 0) dL_law_291 (by decide) ?_
    cases hf
set_option maxRecDepth 100000 in
def fL_law_J263 (N : Nat) (L : Nat) (xs : Nat → Int32)  (n0 s0 : Nat) (K18 : Nat × Nat × Int32 × Gs × Ds → Option (Unit × Ds)) (y1 : Nat) (y2 : Nat) (y3 : Int32) (z0 : Int32) (z1 : Int32) (z2 : Nat) (g : Gs) (d : Ds) : Option (Unit × Ds) := gd (chk g z2 10) <| gd (gN g - n0 ≤ 600000 ∧ gS g - s0 ≤ 7302250) <| cb (fX11_press N g z2 z1 z0 d) fun u88 d86 => (gd (¬ ((y3 + 1) < 0 ∨ L ≤ (y3 + 1).toNatClampNeg)) <| gd (¬ ((y3 + 2) < 0 ∨ L ≤ (y3 + 2).toNatClampNeg)) <| if (xs (y3 + 2).toNatClampNeg) = 0 then (fL_law_J285 N L xs n0 s0 K18 y1 y2 y3 0 (xs (y3 + 1).toNatClampNeg) y2 u88 g d86) else (fL_law_J285 N L xs n0 s0 K18 y1 y2 y3 1 (xs (y3 + 1).toNatClampNeg) y2 u88 g d86))
set_option maxHeartbeats 4000000 in
set_option maxRecDepth 100000 in
theorem tL_law_263 {p : Program} {l : Launch} {e : Env} {s : State} {m : MethodId} {below : List Frame} {meth : Method} {c : Code} {D : va_G} {cy : Nat → ClassId} {B : Bs} {b L : Nat} {xs : Nat → Int32} {n0 s0 : Nat} (C : Cx p s m #[Value.ref b] c code 4 RL D cy B) (hX : va_X b L xs s s.heap) (hbl : b < s.heap.size) (hbA : ¬ wA B b) (hr : meth.sig.returnType = ret) (hlocks : meth.locks = false) (hz : s.heap.size = B.1 + n0) (hB0 : s.heap.size ≤ B.1) {N : Nat}  {dz : Ds} {K18 : Nat × Nat × Int32 × Gs × Ds → Option (Unit × Ds)} (hK18 : ∀ a, K18 a = some ((), dz) → n0 ≤ gN a.2.2.2.1 → s0 ≤ gS a.2.2.2.1 → WB p l e room_1 s m #[Value.ref b] below meth c 4 D cy B (gN a.2.2.2.1 - n0) (gS a.2.2.2.1 - s0) (lw_Z below #[Value.ref b] s) a.2.2.2.1 a.2.2.2.2 [(0, .ref b), (1, .ref (ad B a.1)), (2, .ref (ad B a.2.1)), (3, .int a.2.2.1)] 18 []) {y1 : Nat} {y2 : Nat} {y3 : Int32} {z0 : Int32} {z1 : Int32} {z2 : Nat} {g : Gs} {d : Ds} (hn : n0 ≤ gN g) (hs : s0 ≤ gS g) (hf : fL_law_J263 N L xs n0 s0 K18 y1 y2 y3 z0 z1 z2 g d = some ((), dz)) : WB p l e room_1 s m #[Value.ref b] below meth c 4 D cy B (gN g - n0) (gS g - s0) (lw_Z below #[Value.ref b] s) g d [(0, .ref b), (1, .ref (ad B y1)), (2, .ref (ad B y2)), (3, .int y3)] 263 [.int z0, .int z1, .ref (ad B z2)] := by
  unfold fL_law_J263 at hf
  obtain ⟨h84, hf⟩ := gd_s hf
  obtain ⟨h85, hf⟩ := gd_s hf
  obtain ⟨u88, d86, k87, hf⟩ := cb_s hf
  refine b_cVI C [] dL_law_263 (kX11_press l D cy B k87) lv_L_32 ⟨rfl, rfl, Nat.le_of_ble_eq_true rfl, Nat.le_of_ble_eq_true rfl⟩ h84 (by decide) rfl (Nat.le_of_ble_eq_true rfl) h85 rfl ?_
  refine b_aload_n C dL_law_266 2 rfl rfl ?_
  refine b_aload_n C dL_law_267 0 rfl rfl ?_
  refine b_iload_n C dL_law_268 3 rfl rfl ?_
  refine b_iconst C (v := 1) dL_law_269 (by decide) ?_
  refine b_iadd C dL_law_270 ?_
  obtain ⟨h89, hf⟩ := gd_s hf
  refine b_sld C hX hbl hbA h89 dL_law_271 ?_
  refine b_aload_n C dL_law_272 0 rfl rfl ?_
  refine b_iload_n C dL_law_273 3 rfl rfl ?_
  refine b_iconst C (v := 2) dL_law_274 (by decide) ?_
  refine b_iadd C dL_law_275 ?_
  obtain ⟨h90, hf⟩ := gd_s hf
  refine b_sld C hX hbl hbA h90 dL_law_276 ?_
  refine b_if_eq C (tgt := 284) dL_law_277 (by decide) (fun c91 => ?_) (fun c91 => ?_)
  · have hf := it_s c91 hf
    refine b_iconst C (v := 0) dL_law_284 (by decide) ?_
    refine b_sub [(0, .ref b), (1, .ref (ad B y1)), (2, .ref (ad B y2)), (3, .int y3)] [0, 1, 2, 3] rfl ?_
    exact tL_law_285 C hX hbl hbA hr hlocks hz hB0 hK18 hn hs hf
  · have hf := if_s c91 hf
    refine b_iconst C (v := 1) dL_law_280 (by decide) ?_
    refine b_goto C (tgt := 285) dL_law_281 (by decide) ?_
    refine b_sub [(0, .ref b), (1, .ref (ad B y1)), (2, .ref (ad B y2)), (3, .int y3)] [0, 1, 2, 3] rfl ?_
    exact tL_law_285 C hX hbl hbA hr hlocks hz hB0 hK18 hn hs hf
set_option maxRecDepth 100000 in
def fL_law_J389 (N : Nat) (L : Nat) (xs : Nat → Int32)  (n0 s0 : Nat) (K18 : Nat × Nat × Int32 × Gs × Ds → Option (Unit × Ds)) (y1 : Nat) (y2 : Nat) (y3 : Int32) (g : Gs) (d : Ds) : Option (Unit × Ds) := fL_law_J771 N L xs n0 s0 K18 y1 y2 y3 g d
set_option maxHeartbeats 4000000 in
set_option maxRecDepth 100000 in
theorem tL_law_389 {p : Program} {l : Launch} {e : Env} {s : State} {m : MethodId} {below : List Frame} {meth : Method} {c : Code} {D : va_G} {cy : Nat → ClassId} {B : Bs} {b L : Nat} {xs : Nat → Int32} {n0 s0 : Nat} (C : Cx p s m #[Value.ref b] c code 4 RL D cy B) (hX : va_X b L xs s s.heap) (hbl : b < s.heap.size) (hbA : ¬ wA B b) (hr : meth.sig.returnType = ret) (hlocks : meth.locks = false) (hz : s.heap.size = B.1 + n0) (hB0 : s.heap.size ≤ B.1) {N : Nat}  {dz : Ds} {K18 : Nat × Nat × Int32 × Gs × Ds → Option (Unit × Ds)} (hK18 : ∀ a, K18 a = some ((), dz) → n0 ≤ gN a.2.2.2.1 → s0 ≤ gS a.2.2.2.1 → WB p l e room_1 s m #[Value.ref b] below meth c 4 D cy B (gN a.2.2.2.1 - n0) (gS a.2.2.2.1 - s0) (lw_Z below #[Value.ref b] s) a.2.2.2.1 a.2.2.2.2 [(0, .ref b), (1, .ref (ad B a.1)), (2, .ref (ad B a.2.1)), (3, .int a.2.2.1)] 18 []) {y1 : Nat} {y2 : Nat} {y3 : Int32} {g : Gs} {d : Ds} (hn : n0 ≤ gN g) (hs : s0 ≤ gS g) (hf : fL_law_J389 N L xs n0 s0 K18 y1 y2 y3 g d = some ((), dz)) : WB p l e room_1 s m #[Value.ref b] below meth c 4 D cy B (gN g - n0) (gS g - s0) (lw_Z below #[Value.ref b] s) g d [(0, .ref b), (1, .ref (ad B y1)), (2, .ref (ad B y2)), (3, .int y3)] 389 [] := by
  unfold fL_law_J389 at hf
  refine b_goto C (tgt := 771) dL_law_389 (by decide) ?_
  refine b_sub [(0, .ref b), (1, .ref (ad B y1)), (2, .ref (ad B y2)), (3, .int y3)] [0, 1, 2, 3] rfl ?_
  exact tL_law_771 C hX hbl hbA hr hlocks hz hB0 hK18 hn hs hf
set_option maxRecDepth 100000 in
def fL_law_J488 (N : Nat) (L : Nat) (xs : Nat → Int32)  (n0 s0 : Nat) (K18 : Nat × Nat × Int32 × Gs × Ds → Option (Unit × Ds)) (y1 : Nat) (y2 : Nat) (y3 : Int32) (g : Gs) (d : Ds) : Option (Unit × Ds) := fL_law_J771 N L xs n0 s0 K18 y1 y2 y3 g d
set_option maxHeartbeats 4000000 in
set_option maxRecDepth 100000 in
theorem tL_law_488 {p : Program} {l : Launch} {e : Env} {s : State} {m : MethodId} {below : List Frame} {meth : Method} {c : Code} {D : va_G} {cy : Nat → ClassId} {B : Bs} {b L : Nat} {xs : Nat → Int32} {n0 s0 : Nat} (C : Cx p s m #[Value.ref b] c code 4 RL D cy B) (hX : va_X b L xs s s.heap) (hbl : b < s.heap.size) (hbA : ¬ wA B b) (hr : meth.sig.returnType = ret) (hlocks : meth.locks = false) (hz : s.heap.size = B.1 + n0) (hB0 : s.heap.size ≤ B.1) {N : Nat}  {dz : Ds} {K18 : Nat × Nat × Int32 × Gs × Ds → Option (Unit × Ds)} (hK18 : ∀ a, K18 a = some ((), dz) → n0 ≤ gN a.2.2.2.1 → s0 ≤ gS a.2.2.2.1 → WB p l e room_1 s m #[Value.ref b] below meth c 4 D cy B (gN a.2.2.2.1 - n0) (gS a.2.2.2.1 - s0) (lw_Z below #[Value.ref b] s) a.2.2.2.1 a.2.2.2.2 [(0, .ref b), (1, .ref (ad B a.1)), (2, .ref (ad B a.2.1)), (3, .int a.2.2.1)] 18 []) {y1 : Nat} {y2 : Nat} {y3 : Int32} {g : Gs} {d : Ds} (hn : n0 ≤ gN g) (hs : s0 ≤ gS g) (hf : fL_law_J488 N L xs n0 s0 K18 y1 y2 y3 g d = some ((), dz)) : WB p l e room_1 s m #[Value.ref b] below meth c 4 D cy B (gN g - n0) (gS g - s0) (lw_Z below #[Value.ref b] s) g d [(0, .ref b), (1, .ref (ad B y1)), (2, .ref (ad B y2)), (3, .int y3)] 488 [] := by
  unfold fL_law_J488 at hf
  refine b_goto C (tgt := 771) dL_law_488 (by decide) ?_
  refine b_sub [(0, .ref b), (1, .ref (ad B y1)), (2, .ref (ad B y2)), (3, .int y3)] [0, 1, 2, 3] rfl ?_
  exact tL_law_771 C hX hbl hbA hr hlocks hz hB0 hK18 hn hs hf
set_option maxRecDepth 100000 in
def fL_law_J585 (N : Nat) (L : Nat) (xs : Nat → Int32)  (n0 s0 : Nat) (K18 : Nat × Nat × Int32 × Gs × Ds → Option (Unit × Ds)) (y1 : Nat) (y2 : Nat) (y3 : Int32) (g : Gs) (d : Ds) : Option (Unit × Ds) := gd (¬ ((y3 + 1) < 0 ∨ L ≤ (y3 + 1).toNatClampNeg)) <| gd (¬ ((y3 + 2) < 0 ∨ L ≤ (y3 + 2).toNatClampNeg)) <| gd (chk g y2 11) <| gd (gN g - n0 ≤ 600000 ∧ gS g - s0 ≤ 7302250) <| cb (fX12_chord N g y2 (xs (y3 + 1).toNatClampNeg) (xs (y3 + 2).toNatClampNeg) d) fun u218 d216 => (fL_law_J771 N L xs n0 s0 K18 y1 y2 y3 g d216)
set_option maxHeartbeats 4000000 in
set_option maxRecDepth 100000 in
theorem tL_law_585 {p : Program} {l : Launch} {e : Env} {s : State} {m : MethodId} {below : List Frame} {meth : Method} {c : Code} {D : va_G} {cy : Nat → ClassId} {B : Bs} {b L : Nat} {xs : Nat → Int32} {n0 s0 : Nat} (C : Cx p s m #[Value.ref b] c code 4 RL D cy B) (hX : va_X b L xs s s.heap) (hbl : b < s.heap.size) (hbA : ¬ wA B b) (hr : meth.sig.returnType = ret) (hlocks : meth.locks = false) (hz : s.heap.size = B.1 + n0) (hB0 : s.heap.size ≤ B.1) {N : Nat}  {dz : Ds} {K18 : Nat × Nat × Int32 × Gs × Ds → Option (Unit × Ds)} (hK18 : ∀ a, K18 a = some ((), dz) → n0 ≤ gN a.2.2.2.1 → s0 ≤ gS a.2.2.2.1 → WB p l e room_1 s m #[Value.ref b] below meth c 4 D cy B (gN a.2.2.2.1 - n0) (gS a.2.2.2.1 - s0) (lw_Z below #[Value.ref b] s) a.2.2.2.1 a.2.2.2.2 [(0, .ref b), (1, .ref (ad B a.1)), (2, .ref (ad B a.2.1)), (3, .int a.2.2.1)] 18 []) {y1 : Nat} {y2 : Nat} {y3 : Int32} {g : Gs} {d : Ds} (hn : n0 ≤ gN g) (hs : s0 ≤ gS g) (hf : fL_law_J585 N L xs n0 s0 K18 y1 y2 y3 g d = some ((), dz)) : WB p l e room_1 s m #[Value.ref b] below meth c 4 D cy B (gN g - n0) (gS g - s0) (lw_Z below #[Value.ref b] s) g d [(0, .ref b), (1, .ref (ad B y1)), (2, .ref (ad B y2)), (3, .int y3)] 585 [] := by
  unfold fL_law_J585 at hf
  refine b_aload_n C dL_law_585 2 rfl rfl ?_
  refine b_aload_n C dL_law_586 0 rfl rfl ?_
  refine b_iload_n C dL_law_587 3 rfl rfl ?_
  refine b_iconst C (v := 1) dL_law_588 (by decide) ?_
  refine b_iadd C dL_law_589 ?_
  obtain ⟨h212, hf⟩ := gd_s hf
  refine b_sld C hX hbl hbA h212 dL_law_590 ?_
  refine b_aload_n C dL_law_591 0 rfl rfl ?_
  refine b_iload_n C dL_law_592 3 rfl rfl ?_
  refine b_iconst C (v := 2) dL_law_593 (by decide) ?_
  refine b_iadd C dL_law_594 ?_
  obtain ⟨h213, hf⟩ := gd_s hf
  refine b_sld C hX hbl hbA h213 dL_law_595 ?_
  obtain ⟨h214, hf⟩ := gd_s hf
  obtain ⟨h215, hf⟩ := gd_s hf
  obtain ⟨u218, d216, k217, hf⟩ := cb_s hf
  refine b_cVI C [] dL_law_596 (kX12_chord l D cy B k217) lv_L_78 ⟨rfl, rfl, Nat.le_of_ble_eq_true rfl, Nat.le_of_ble_eq_true rfl⟩ h214 (by decide) rfl (Nat.le_of_ble_eq_true rfl) h215 rfl ?_
  refine b_popI C dL_law_599 ?_
  refine b_goto C (tgt := 771) dL_law_600 (by decide) ?_
  refine b_sub [(0, .ref b), (1, .ref (ad B y1)), (2, .ref (ad B y2)), (3, .int y3)] [0, 1, 2, 3] rfl ?_
  exact tL_law_771 C hX hbl hbA hr hlocks hz hB0 hK18 hn hs hf
set_option maxRecDepth 100000 in
def fL_law_J684 (N : Nat) (L : Nat) (xs : Nat → Int32)  (n0 s0 : Nat) (K18 : Nat × Nat × Int32 × Gs × Ds → Option (Unit × Ds)) (y1 : Nat) (y2 : Nat) (y3 : Int32) (g : Gs) (d : Ds) : Option (Unit × Ds) := gd (¬ ((y3 + 1) < 0 ∨ L ≤ (y3 + 1).toNatClampNeg)) <| gd (¬ ((y3 + 2) < 0 ∨ L ≤ (y3 + 2).toNatClampNeg)) <| gd (chk g y2 11) <| gd (gN g - n0 ≤ 600000 ∧ gS g - s0 ≤ 7302250) <| cb (fX12_ahead N g y2 (xs (y3 + 1).toNatClampNeg) (xs (y3 + 2).toNatClampNeg) d) fun u257 d255 => (fL_law_J771 N L xs n0 s0 K18 y1 y2 y3 g d255)
set_option maxHeartbeats 4000000 in
set_option maxRecDepth 100000 in
theorem tL_law_684 {p : Program} {l : Launch} {e : Env} {s : State} {m : MethodId} {below : List Frame} {meth : Method} {c : Code} {D : va_G} {cy : Nat → ClassId} {B : Bs} {b L : Nat} {xs : Nat → Int32} {n0 s0 : Nat} (C : Cx p s m #[Value.ref b] c code 4 RL D cy B) (hX : va_X b L xs s s.heap) (hbl : b < s.heap.size) (hbA : ¬ wA B b) (hr : meth.sig.returnType = ret) (hlocks : meth.locks = false) (hz : s.heap.size = B.1 + n0) (hB0 : s.heap.size ≤ B.1) {N : Nat}  {dz : Ds} {K18 : Nat × Nat × Int32 × Gs × Ds → Option (Unit × Ds)} (hK18 : ∀ a, K18 a = some ((), dz) → n0 ≤ gN a.2.2.2.1 → s0 ≤ gS a.2.2.2.1 → WB p l e room_1 s m #[Value.ref b] below meth c 4 D cy B (gN a.2.2.2.1 - n0) (gS a.2.2.2.1 - s0) (lw_Z below #[Value.ref b] s) a.2.2.2.1 a.2.2.2.2 [(0, .ref b), (1, .ref (ad B a.1)), (2, .ref (ad B a.2.1)), (3, .int a.2.2.1)] 18 []) {y1 : Nat} {y2 : Nat} {y3 : Int32} {g : Gs} {d : Ds} (hn : n0 ≤ gN g) (hs : s0 ≤ gS g) (hf : fL_law_J684 N L xs n0 s0 K18 y1 y2 y3 g d = some ((), dz)) : WB p l e room_1 s m #[Value.ref b] below meth c 4 D cy B (gN g - n0) (gS g - s0) (lw_Z below #[Value.ref b] s) g d [(0, .ref b), (1, .ref (ad B y1)), (2, .ref (ad B y2)), (3, .int y3)] 684 [] := by
  unfold fL_law_J684 at hf
  refine b_aload_n C dL_law_684 2 rfl rfl ?_
  refine b_aload_n C dL_law_685 0 rfl rfl ?_
  refine b_iload_n C dL_law_686 3 rfl rfl ?_
  refine b_iconst C (v := 1) dL_law_687 (by decide) ?_
  refine b_iadd C dL_law_688 ?_
  obtain ⟨h251, hf⟩ := gd_s hf
  refine b_sld C hX hbl hbA h251 dL_law_689 ?_
  refine b_aload_n C dL_law_690 0 rfl rfl ?_
  refine b_iload_n C dL_law_691 3 rfl rfl ?_
  refine b_iconst C (v := 2) dL_law_692 (by decide) ?_
  refine b_iadd C dL_law_693 ?_
  obtain ⟨h252, hf⟩ := gd_s hf
  refine b_sld C hX hbl hbA h252 dL_law_694 ?_
  obtain ⟨h253, hf⟩ := gd_s hf
  obtain ⟨h254, hf⟩ := gd_s hf
  obtain ⟨u257, d255, k256, hf⟩ := cb_s hf
  refine b_cVI C [] dL_law_695 (kX12_ahead l D cy B k256) lv_L_90 ⟨rfl, rfl, Nat.le_of_ble_eq_true rfl, Nat.le_of_ble_eq_true rfl⟩ h253 (by decide) rfl (Nat.le_of_ble_eq_true rfl) h254 rfl ?_
  refine b_popI C dL_law_698 ?_
  refine b_goto C (tgt := 771) dL_law_699 (by decide) ?_
  refine b_sub [(0, .ref b), (1, .ref (ad B y1)), (2, .ref (ad B y2)), (3, .int y3)] [0, 1, 2, 3] rfl ?_
  exact tL_law_771 C hX hbl hbA hr hlocks hz hB0 hK18 hn hs hf
set_option maxRecDepth 100000 in
def fL_law_B18 (N : Nat) (L : Nat) (xs : Nat → Int32)  (n0 s0 : Nat) (K18 : Nat × Nat × Int32 × Gs × Ds → Option (Unit × Ds)) (y1 : Nat) (y2 : Nat) (y3 : Int32) (g : Gs) (d : Ds) : Option (Unit × Ds) := if ((Int32.ofNat L) - 6) < y3 then (gd (gN g - n0 ≤ 600000 ∧ gS g - s0 ≤ 7302250) <| some ((), d)) else (gd (¬ (y3 < 0 ∨ L ≤ y3.toNatClampNeg)) <| if ((xs y3.toNatClampNeg) &&& 31).toInt < 0 ∨ 20 < ((xs y3.toNatClampNeg) &&& 31).toInt then (fL_law_J771 N L xs n0 s0 K18 y1 y2 y3 g d) else if ((xs y3.toNatClampNeg) &&& 31) = 0 then (gd (¬ ((y3 + 1) < 0 ∨ L ≤ (y3 + 1).toNatClampNeg)) <| gd (¬ ((y3 + 2) < 0 ∨ L ≤ (y3 + 2).toNatClampNeg)) <| gd (¬ ((y3 + 3) < 0 ∨ L ≤ (y3 + 3).toNatClampNeg)) <| gd (¬ ((y3 + 4) < 0 ∨ L ≤ (y3 + 4).toNatClampNeg)) <| gd (¬ ((y3 + 5) < 0 ∨ L ≤ (y3 + 5).toNatClampNeg)) <| gd (chk g y1 10) <| gd (gN g - n0 ≤ 600000 ∧ gS g - s0 ≤ 7302250) <| cb (fX11_feed N g y1 (xs (y3 + 1).toNatClampNeg) (xs (y3 + 2).toNatClampNeg) (xs (y3 + 3).toNatClampNeg) (xs (y3 + 4).toNatClampNeg) (xs (y3 + 5).toNatClampNeg) d) fun u42 d40 => (gd (chk g y2 11) <| cb (fX12_feed N g y2 (xs (y3 + 1).toNatClampNeg) (xs (y3 + 2).toNatClampNeg) (xs (y3 + 3).toNatClampNeg) (xs (y3 + 4).toNatClampNeg) (xs (y3 + 5).toNatClampNeg) d40) fun u46 d44 => (fL_law_J771 N L xs n0 s0 K18 y1 y2 y3 g d44))) else if ((xs y3.toNatClampNeg) &&& 31) = 1 then (gd (¬ ((y3 + 1) < 0 ∨ L ≤ (y3 + 1).toNatClampNeg)) <| gd (chk g y1 10) <| gd (gN g - n0 ≤ 600000 ∧ gS g - s0 ≤ 7302250) <| cb (fX11_back N g y1 (xs (y3 + 1).toNatClampNeg) d) fun u53 d51 => (fL_law_J205 N L xs n0 s0 K18 y1 y2 y3 g d51)) else if ((xs y3.toNatClampNeg) &&& 31) = 2 then (gd (chk g y1 10) <| gd (gN g - n0 ≤ 600000 ∧ gS g - s0 ≤ 7302250) <| cb (fX11_read N g y1 d) fun u65 d63 => (gd (chk g y2 11) <| cb (fX12_read N g y2 d63) fun u69 d67 => (fL_law_J771 N L xs n0 s0 K18 y1 y2 y3 g d67))) else if ((xs y3.toNatClampNeg) &&& 31) = 3 then (gd (chk g y1 10) <| gd (gN g - n0 ≤ 600000 ∧ gS g - s0 ≤ 7302250) <| cb (fX11_place N g y1 d) fun u75 d73 => (gd (chk g y2 11) <| cb (fX12_place N g y2 d73) fun u79 d77 => (fL_law_J771 N L xs n0 s0 K18 y1 y2 y3 g d77))) else if ((xs y3.toNatClampNeg) &&& 31) = 4 then (gd (¬ ((y3 + 1) < 0 ∨ L ≤ (y3 + 1).toNatClampNeg)) <| gd (¬ ((y3 + 2) < 0 ∨ L ≤ (y3 + 2).toNatClampNeg)) <| if (xs (y3 + 2).toNatClampNeg) = 0 then (fL_law_J263 N L xs n0 s0 K18 y1 y2 y3 0 (xs (y3 + 1).toNatClampNeg) y1 g d) else (fL_law_J263 N L xs n0 s0 K18 y1 y2 y3 1 (xs (y3 + 1).toNatClampNeg) y1 g d)) else if ((xs y3.toNatClampNeg) &&& 31) = 5 then (gd (¬ ((y3 + 1) < 0 ∨ L ≤ (y3 + 1).toNatClampNeg)) <| gd (chk g y1 10) <| gd (gN g - n0 ≤ 600000 ∧ gS g - s0 ≤ 7302250) <| cb (fX11_tick N g y1 (xs (y3 + 1).toNatClampNeg) d) fun u104 d102 => (gd (chk g y2 11) <| cb (fX12_tick N g y2 (xs (y3 + 1).toNatClampNeg) d102) fun u108 d106 => (fL_law_J771 N L xs n0 s0 K18 y1 y2 y3 g d106))) else if ((xs y3.toNatClampNeg) &&& 31) = 6 then (gd (¬ ((y3 + 1) < 0 ∨ L ≤ (y3 + 1).toNatClampNeg)) <| gd (¬ ((y3 + 2) < 0 ∨ L ≤ (y3 + 2).toNatClampNeg)) <| gd (chk g y1 10) <| gd (gN g - n0 ≤ 600000 ∧ gS g - s0 ≤ 7302250) <| cb (fX11_key N g y1 (xs (y3 + 1).toNatClampNeg) (xs (y3 + 2).toNatClampNeg) d) fun u116 d114 => (gd (chk g y2 11) <| cb (fX12_key N g y2 (xs (y3 + 1).toNatClampNeg) (xs (y3 + 2).toNatClampNeg) d114) fun u120 d118 => (fL_law_J771 N L xs n0 s0 K18 y1 y2 y3 g d118))) else if ((xs y3.toNatClampNeg) &&& 31) = 7 then (gd (¬ ((y3 + 1) < 0 ∨ L ≤ (y3 + 1).toNatClampNeg)) <| gd (¬ ((y3 + 2) < 0 ∨ L ≤ (y3 + 2).toNatClampNeg)) <| gd (¬ ((y3 + 3) < 0 ∨ L ≤ (y3 + 3).toNatClampNeg)) <| gd (chk g y1 10) <| gd (gN g - n0 ≤ 600000 ∧ gS g - s0 ≤ 7302250) <| cb (fX11_deed N g y1 (xs (y3 + 1).toNatClampNeg) (xs (y3 + 2).toNatClampNeg) (xs (y3 + 3).toNatClampNeg) d) fun u129 d127 => (gd (chk g y2 11) <| cb (fX12_deed N g y2 (xs (y3 + 1).toNatClampNeg) (xs (y3 + 2).toNatClampNeg) (xs (y3 + 3).toNatClampNeg) d127) fun u133 d131 => (fL_law_J389 N L xs n0 s0 K18 y1 y2 y3 g d131))) else if ((xs y3.toNatClampNeg) &&& 31) = 8 then (gd (¬ ((y3 + 1) < 0 ∨ L ≤ (y3 + 1).toNatClampNeg)) <| gd (¬ ((y3 + 2) < 0 ∨ L ≤ (y3 + 2).toNatClampNeg)) <| gd (chk g y1 10) <| gd (gN g - n0 ≤ 600000 ∧ gS g - s0 ≤ 7302250) <| cb (fX11_does N g y1 (xs (y3 + 1).toNatClampNeg) (xs (y3 + 2).toNatClampNeg) d) fun u141 d139 => (gd (chk g y2 11) <| cb (fX12_does N g y2 (xs (y3 + 1).toNatClampNeg) (xs (y3 + 2).toNatClampNeg) d139) fun u145 d143 => (fL_law_J771 N L xs n0 s0 K18 y1 y2 y3 g d143))) else if ((xs y3.toNatClampNeg) &&& 31) = 9 then (gd (¬ ((y3 + 1) < 0 ∨ L ≤ (y3 + 1).toNatClampNeg)) <| gd (¬ ((y3 + 2) < 0 ∨ L ≤ (y3 + 2).toNatClampNeg)) <| gd (chk g y1 10) <| gd (gN g - n0 ≤ 600000 ∧ gS g - s0 ≤ 7302250) <| cb (fX11_event N g y1 (xs (y3 + 1).toNatClampNeg) (xs (y3 + 2).toNatClampNeg) d) fun u153 d151 => (gd (chk g y2 11) <| cb (fX12_event N g y2 (xs (y3 + 1).toNatClampNeg) (xs (y3 + 2).toNatClampNeg) d151) fun u157 d155 => (fL_law_J771 N L xs n0 s0 K18 y1 y2 y3 g d155))) else if ((xs y3.toNatClampNeg) &&& 31) = 10 then (gd (¬ ((y3 + 1) < 0 ∨ L ≤ (y3 + 1).toNatClampNeg)) <| gd (¬ ((y3 + 2) < 0 ∨ L ≤ (y3 + 2).toNatClampNeg)) <| gd (chk g y1 10) <| gd (gN g - n0 ≤ 600000 ∧ gS g - s0 ≤ 7302250) <| cb (fX11_report N g y1 (xs (y3 + 1).toNatClampNeg) (xs (y3 + 2).toNatClampNeg) d) fun u165 d163 => (gd (chk g y2 11) <| cb (fX12_report N g y2 (xs (y3 + 1).toNatClampNeg) (xs (y3 + 2).toNatClampNeg) d163) fun u169 d167 => (fL_law_J488 N L xs n0 s0 K18 y1 y2 y3 g d167))) else if ((xs y3.toNatClampNeg) &&& 31) = 11 then (gd (¬ ((y3 + 1) < 0 ∨ L ≤ (y3 + 1).toNatClampNeg)) <| gd (chk g y1 10) <| gd (gN g - n0 ≤ 600000 ∧ gS g - s0 ≤ 7302250) <| cb (fX11_sent N g y1 (xs (y3 + 1).toNatClampNeg) d) fun u176 d174 => (gd (chk g y2 11) <| cb (fX12_sent N g y2 (xs (y3 + 1).toNatClampNeg) d174) fun u180 d178 => (fL_law_J771 N L xs n0 s0 K18 y1 y2 y3 g d178))) else if ((xs y3.toNatClampNeg) &&& 31) = 12 then (gd (¬ ((y3 + 1) < 0 ∨ L ≤ (y3 + 1).toNatClampNeg)) <| gd (chk g y1 10) <| gd (gN g - n0 ≤ 600000 ∧ gS g - s0 ≤ 7302250) <| cb (fX11_host N g y1 (xs (y3 + 1).toNatClampNeg) d) fun u187 d185 => (gd (chk g y2 11) <| cb (fX12_host N g y2 (xs (y3 + 1).toNatClampNeg) d185) fun u191 d189 => (fL_law_J771 N L xs n0 s0 K18 y1 y2 y3 g d189))) else if ((xs y3.toNatClampNeg) &&& 31) = 13 then (gd (¬ ((y3 + 1) < 0 ∨ L ≤ (y3 + 1).toNatClampNeg)) <| gd (¬ ((y3 + 2) < 0 ∨ L ≤ (y3 + 2).toNatClampNeg)) <| gd (chk g y1 10) <| gd (gN g - n0 ≤ 600000 ∧ gS g - s0 ≤ 7302250) <| cb (fX11_strokes N g y1 (xs (y3 + 1).toNatClampNeg) (xs (y3 + 2).toNatClampNeg) d) fun u199 d197 => (gd (chk g y2 11) <| cb (fX12_strokes N g y2 (xs (y3 + 1).toNatClampNeg) (xs (y3 + 2).toNatClampNeg) d197) fun u203 d201 => (fL_law_J771 N L xs n0 s0 K18 y1 y2 y3 g d201))) else if ((xs y3.toNatClampNeg) &&& 31) = 14 then (gd (¬ ((y3 + 1) < 0 ∨ L ≤ (y3 + 1).toNatClampNeg)) <| gd (¬ ((y3 + 2) < 0 ∨ L ≤ (y3 + 2).toNatClampNeg)) <| gd (chk g y1 10) <| gd (gN g - n0 ≤ 600000 ∧ gS g - s0 ≤ 7302250) <| cb (fX11_chord N g y1 (xs (y3 + 1).toNatClampNeg) (xs (y3 + 2).toNatClampNeg) d) fun u211 d209 => (fL_law_J585 N L xs n0 s0 K18 y1 y2 y3 g d209)) else if ((xs y3.toNatClampNeg) &&& 31) = 15 then (gd (¬ ((y3 + 1) < 0 ∨ L ≤ (y3 + 1).toNatClampNeg)) <| gd (¬ ((y3 + 2) < 0 ∨ L ≤ (y3 + 2).toNatClampNeg)) <| gd (chk g y1 10) <| gd (gN g - n0 ≤ 600000 ∧ gS g - s0 ≤ 7302250) <| cb (fX11_macro N g y1 (xs (y3 + 1).toNatClampNeg) (xs (y3 + 2).toNatClampNeg) d) fun u226 d224 => (gd (chk g y2 11) <| cb (fX12_macro N g y2 (xs (y3 + 1).toNatClampNeg) (xs (y3 + 2).toNatClampNeg) d224) fun u230 d228 => (fL_law_J771 N L xs n0 s0 K18 y1 y2 y3 g d228))) else if ((xs y3.toNatClampNeg) &&& 31) = 16 then (gd (¬ ((y3 + 1) < 0 ∨ L ≤ (y3 + 1).toNatClampNeg)) <| gd (¬ ((y3 + 2) < 0 ∨ L ≤ (y3 + 2).toNatClampNeg)) <| gd (chk g y1 10) <| gd (gN g - n0 ≤ 600000 ∧ gS g - s0 ≤ 7302250) <| cb (fX11_ghosts N g y1 (xs (y3 + 1).toNatClampNeg) (xs (y3 + 2).toNatClampNeg) d) fun u238 d236 => (gd (chk g y2 11) <| cb (fX12_ghosts N g y2 (xs (y3 + 1).toNatClampNeg) (xs (y3 + 2).toNatClampNeg) d236) fun u242 d240 => (fL_law_J771 N L xs n0 s0 K18 y1 y2 y3 g d240))) else if ((xs y3.toNatClampNeg) &&& 31) = 17 then (gd (¬ ((y3 + 1) < 0 ∨ L ≤ (y3 + 1).toNatClampNeg)) <| gd (¬ ((y3 + 2) < 0 ∨ L ≤ (y3 + 2).toNatClampNeg)) <| gd (chk g y1 10) <| gd (gN g - n0 ≤ 600000 ∧ gS g - s0 ≤ 7302250) <| cb (fX11_ahead N g y1 (xs (y3 + 1).toNatClampNeg) (xs (y3 + 2).toNatClampNeg) d) fun u250 d248 => (fL_law_J684 N L xs n0 s0 K18 y1 y2 y3 g d248)) else if ((xs y3.toNatClampNeg) &&& 31) = 18 then (gd (¬ ((y3 + 1) < 0 ∨ L ≤ (y3 + 1).toNatClampNeg)) <| gd (chk g y1 10) <| gd (gN g - n0 ≤ 600000 ∧ gS g - s0 ≤ 7302250) <| cb (fX11_hold N g y1 (xs (y3 + 1).toNatClampNeg) d) fun u264 d262 => (gd (chk g y2 11) <| cb (fX12_hold N g y2 (xs (y3 + 1).toNatClampNeg) d262) fun u268 d266 => (fL_law_J771 N L xs n0 s0 K18 y1 y2 y3 g d266))) else if ((xs y3.toNatClampNeg) &&& 31) = 19 then (gd (¬ ((y3 + 1) < 0 ∨ L ≤ (y3 + 1).toNatClampNeg)) <| gd (chk g y1 10) <| gd (gN g - n0 ≤ 600000 ∧ gS g - s0 ≤ 7302250) <| cb (fX11_restore N g y1 (xs (y3 + 1).toNatClampNeg) d) fun u275 d273 => (gd (chk g y2 11) <| cb (fX12_restore N g y2 (xs (y3 + 1).toNatClampNeg) d273) fun u279 d277 => (fL_law_J771 N L xs n0 s0 K18 y1 y2 y3 g d277))) else if ((xs y3.toNatClampNeg) &&& 31) = 20 then (gd (¬ ((y3 + 1) < 0 ∨ L ≤ (y3 + 1).toNatClampNeg)) <| gd (chk g y1 10) <| gd (gN g - n0 ≤ 600000 ∧ gS g - s0 ≤ 7302250) <| cb (fX11_count N g y1 (xs (y3 + 1).toNatClampNeg) d) fun u286 d284 => (gd (chk g y2 11) <| cb (fX12_count N g y2 (xs (y3 + 1).toNatClampNeg) d284) fun u290 d288 => (fL_law_J771 N L xs n0 s0 K18 y1 y2 y3 g d288))) else none)
set_option maxHeartbeats 4000000 in
set_option maxRecDepth 100000 in
theorem tL_law_18 {p : Program} {l : Launch} {e : Env} {s : State} {m : MethodId} {below : List Frame} {meth : Method} {c : Code} {D : va_G} {cy : Nat → ClassId} {B : Bs} {b L : Nat} {xs : Nat → Int32} {n0 s0 : Nat} (C : Cx p s m #[Value.ref b] c code 4 RL D cy B) (hX : va_X b L xs s s.heap) (hbl : b < s.heap.size) (hbA : ¬ wA B b) (hr : meth.sig.returnType = ret) (hlocks : meth.locks = false) (hz : s.heap.size = B.1 + n0) (hB0 : s.heap.size ≤ B.1) {N : Nat}  {dz : Ds} {K18 : Nat × Nat × Int32 × Gs × Ds → Option (Unit × Ds)} (hK18 : ∀ a, K18 a = some ((), dz) → n0 ≤ gN a.2.2.2.1 → s0 ≤ gS a.2.2.2.1 → WB p l e room_1 s m #[Value.ref b] below meth c 4 D cy B (gN a.2.2.2.1 - n0) (gS a.2.2.2.1 - s0) (lw_Z below #[Value.ref b] s) a.2.2.2.1 a.2.2.2.2 [(0, .ref b), (1, .ref (ad B a.1)), (2, .ref (ad B a.2.1)), (3, .int a.2.2.1)] 18 []) {y1 : Nat} {y2 : Nat} {y3 : Int32} {g : Gs} {d : Ds} (hn : n0 ≤ gN g) (hs : s0 ≤ gS g) (hf : fL_law_B18 N L xs n0 s0 K18 y1 y2 y3 g d = some ((), dz)) : WB p l e room_1 s m #[Value.ref b] below meth c 4 D cy B (gN g - n0) (gS g - s0) (lw_Z below #[Value.ref b] s) g d [(0, .ref b), (1, .ref (ad B y1)), (2, .ref (ad B y2)), (3, .int y3)] 18 [] := by
  unfold fL_law_B18 at hf
  refine b_iload_n C dL_law_18 3 rfl rfl ?_
  refine b_aload_n C dL_law_19 0 rfl rfl ?_
  refine b_slen C hX hbl hbA dL_law_20 ?_
  refine b_bipush C (v := 6) dL_law_21 (by decide) ?_
  refine b_isub C dL_law_23 ?_
  refine b_icmp_gt C (tgt := 777) dL_law_24 (by decide) (fun c27 => ?_) (fun c27 => ?_)
  · have hf := it_s c27 hf
    refine b_iconst C (v := 1) dL_law_777 (by decide) ?_
    obtain ⟨h28, hf⟩ := gd_s hf
    exact b_lwret C hr hlocks hB0 h28 dL_law_778
  · have hf := if_s c27 hf
    refine b_aload_n C dL_law_27 0 rfl rfl ?_
    refine b_iload_n C dL_law_28 3 rfl rfl ?_
    obtain ⟨h29, hf⟩ := gd_s hf
    refine b_sld C hX hbl hbA h29 dL_law_29 ?_
    refine b_bipush C (v := 31) dL_law_30 (by decide) ?_
    refine b_iand C dL_law_32 ?_
    by_cases c30 : ((xs y3.toNatClampNeg) &&& 31).toInt < 0 ∨ 20 < ((xs y3.toNatClampNeg) &&& 31).toInt
    · have hf := it_s c30 hf
      refine b_tabOut C (tgt := 771) dL_law_33 c30 (by decide) ?_
      refine b_sub [(0, .ref b), (1, .ref (ad B y1)), (2, .ref (ad B y2)), (3, .int y3)] [0, 1, 2, 3] rfl ?_
      exact tL_law_771 C hX hbl hbA hr hlocks hz hB0 hK18 hn hs hf
    · have hf := if_s c30 hf
      by_cases c32 : ((xs y3.toNatClampNeg) &&& 31) = 0
      · have hf := it_s c32 hf
        refine b_tabIn C (tgt := 132) (off := 99) dL_law_33 c32 (by decide) (by decide) (by decide) (by decide) ?_
        refine b_aload_n C dL_law_132 1 rfl rfl ?_
        refine b_aload_n C dL_law_133 0 rfl rfl ?_
        refine b_iload_n C dL_law_134 3 rfl rfl ?_
        refine b_iconst C (v := 1) dL_law_135 (by decide) ?_
        refine b_iadd C dL_law_136 ?_
        obtain ⟨h33, hf⟩ := gd_s hf
        refine b_sld C hX hbl hbA h33 dL_law_137 ?_
        refine b_aload_n C dL_law_138 0 rfl rfl ?_
        refine b_iload_n C dL_law_139 3 rfl rfl ?_
        refine b_iconst C (v := 2) dL_law_140 (by decide) ?_
        refine b_iadd C dL_law_141 ?_
        obtain ⟨h34, hf⟩ := gd_s hf
        refine b_sld C hX hbl hbA h34 dL_law_142 ?_
        refine b_aload_n C dL_law_143 0 rfl rfl ?_
        refine b_iload_n C dL_law_144 3 rfl rfl ?_
        refine b_iconst C (v := 3) dL_law_145 (by decide) ?_
        refine b_iadd C dL_law_146 ?_
        obtain ⟨h35, hf⟩ := gd_s hf
        refine b_sld C hX hbl hbA h35 dL_law_147 ?_
        refine b_aload_n C dL_law_148 0 rfl rfl ?_
        refine b_iload_n C dL_law_149 3 rfl rfl ?_
        refine b_iconst C (v := 4) dL_law_150 (by decide) ?_
        refine b_iadd C dL_law_151 ?_
        obtain ⟨h36, hf⟩ := gd_s hf
        refine b_sld C hX hbl hbA h36 dL_law_152 ?_
        refine b_aload_n C dL_law_153 0 rfl rfl ?_
        refine b_iload_n C dL_law_154 3 rfl rfl ?_
        refine b_iconst C (v := 5) dL_law_155 (by decide) ?_
        refine b_iadd C dL_law_156 ?_
        obtain ⟨h37, hf⟩ := gd_s hf
        refine b_sld C hX hbl hbA h37 dL_law_157 ?_
        obtain ⟨h38, hf⟩ := gd_s hf
        obtain ⟨h39, hf⟩ := gd_s hf
        obtain ⟨u42, d40, k41, hf⟩ := cb_s hf
        refine b_cVI C [] dL_law_158 (kX11_feed l D cy B k41) lv_L_13 ⟨rfl, rfl, Nat.le_of_ble_eq_true rfl, Nat.le_of_ble_eq_true rfl⟩ h38 (by decide) rfl (Nat.le_of_ble_eq_true rfl) h39 rfl ?_
        refine b_popI C dL_law_161 ?_
        refine b_aload_n C dL_law_162 2 rfl rfl ?_
        refine b_aload_n C dL_law_163 0 rfl rfl ?_
        refine b_iload_n C dL_law_164 3 rfl rfl ?_
        refine b_iconst C (v := 1) dL_law_165 (by decide) ?_
        refine b_iadd C dL_law_166 ?_
        refine b_sld C hX hbl hbA h33 dL_law_167 ?_
        refine b_aload_n C dL_law_168 0 rfl rfl ?_
        refine b_iload_n C dL_law_169 3 rfl rfl ?_
        refine b_iconst C (v := 2) dL_law_170 (by decide) ?_
        refine b_iadd C dL_law_171 ?_
        refine b_sld C hX hbl hbA h34 dL_law_172 ?_
        refine b_aload_n C dL_law_173 0 rfl rfl ?_
        refine b_iload_n C dL_law_174 3 rfl rfl ?_
        refine b_iconst C (v := 3) dL_law_175 (by decide) ?_
        refine b_iadd C dL_law_176 ?_
        refine b_sld C hX hbl hbA h35 dL_law_177 ?_
        refine b_aload_n C dL_law_178 0 rfl rfl ?_
        refine b_iload_n C dL_law_179 3 rfl rfl ?_
        refine b_iconst C (v := 4) dL_law_180 (by decide) ?_
        refine b_iadd C dL_law_181 ?_
        refine b_sld C hX hbl hbA h36 dL_law_182 ?_
        refine b_aload_n C dL_law_183 0 rfl rfl ?_
        refine b_iload_n C dL_law_184 3 rfl rfl ?_
        refine b_iconst C (v := 5) dL_law_185 (by decide) ?_
        refine b_iadd C dL_law_186 ?_
        refine b_sld C hX hbl hbA h37 dL_law_187 ?_
        obtain ⟨h43, hf⟩ := gd_s hf
        obtain ⟨u46, d44, k45, hf⟩ := cb_s hf
        refine b_cVI C [] dL_law_188 (kX12_feed l D cy B k45) lv_L_17 ⟨rfl, rfl, Nat.le_of_ble_eq_true rfl, Nat.le_of_ble_eq_true rfl⟩ h43 (by decide) rfl (Nat.le_of_ble_eq_true rfl) h39 rfl ?_
        refine b_popI C dL_law_191 ?_
        refine b_goto C (tgt := 771) dL_law_192 (by decide) ?_
        refine b_sub [(0, .ref b), (1, .ref (ad B y1)), (2, .ref (ad B y2)), (3, .int y3)] [0, 1, 2, 3] rfl ?_
        exact tL_law_771 C hX hbl hbA hr hlocks hz hB0 hK18 hn hs hf
      have hf := if_s c32 hf
      by_cases c47 : ((xs y3.toNatClampNeg) &&& 31) = 1
      · have hf := it_s c47 hf
        refine b_tabIn C (tgt := 195) (off := 162) dL_law_33 c47 (by decide) (by decide) (by decide) (by decide) ?_
        refine b_aload_n C dL_law_195 1 rfl rfl ?_
        refine b_aload_n C dL_law_196 0 rfl rfl ?_
        refine b_iload_n C dL_law_197 3 rfl rfl ?_
        refine b_iconst C (v := 1) dL_law_198 (by decide) ?_
        refine b_iadd C dL_law_199 ?_
        obtain ⟨h48, hf⟩ := gd_s hf
        refine b_sld C hX hbl hbA h48 dL_law_200 ?_
        obtain ⟨h49, hf⟩ := gd_s hf
        obtain ⟨h50, hf⟩ := gd_s hf
        obtain ⟨u53, d51, k52, hf⟩ := cb_s hf
        refine b_cVI C [] dL_law_201 (kX11_back l D cy B k52) lv_L_18 ⟨rfl, rfl, Nat.le_of_ble_eq_true rfl, Nat.le_of_ble_eq_true rfl⟩ h49 (by decide) rfl (Nat.le_of_ble_eq_true rfl) h50 rfl ?_
        refine b_popI C dL_law_204 ?_
        refine b_sub [(0, .ref b), (1, .ref (ad B y1)), (2, .ref (ad B y2)), (3, .int y3)] [0, 1, 2, 3] rfl ?_
        exact tL_law_205 C hX hbl hbA hr hlocks hz hB0 hK18 hn hs hf
      have hf := if_s c47 hf
      by_cases c60 : ((xs y3.toNatClampNeg) &&& 31) = 2
      · have hf := it_s c60 hf
        refine b_tabIn C (tgt := 218) (off := 185) dL_law_33 c60 (by decide) (by decide) (by decide) (by decide) ?_
        refine b_aload_n C dL_law_218 1 rfl rfl ?_
        obtain ⟨h61, hf⟩ := gd_s hf
        obtain ⟨h62, hf⟩ := gd_s hf
        obtain ⟨u65, d63, k64, hf⟩ := cb_s hf
        refine b_cVI C [] dL_law_219 (kX11_read l D cy B k64) lv_L_23 ⟨rfl, rfl, Nat.le_of_ble_eq_true rfl, Nat.le_of_ble_eq_true rfl⟩ h61 (by decide) rfl (Nat.le_of_ble_eq_true rfl) h62 rfl ?_
        refine b_popI C dL_law_222 ?_
        refine b_aload_n C dL_law_223 2 rfl rfl ?_
        obtain ⟨h66, hf⟩ := gd_s hf
        obtain ⟨u69, d67, k68, hf⟩ := cb_s hf
        refine b_cVI C [] dL_law_224 (kX12_read l D cy B k68) lv_L_27 ⟨rfl, rfl, Nat.le_of_ble_eq_true rfl, Nat.le_of_ble_eq_true rfl⟩ h66 (by decide) rfl (Nat.le_of_ble_eq_true rfl) h62 rfl ?_
        refine b_popI C dL_law_227 ?_
        refine b_goto C (tgt := 771) dL_law_228 (by decide) ?_
        refine b_sub [(0, .ref b), (1, .ref (ad B y1)), (2, .ref (ad B y2)), (3, .int y3)] [0, 1, 2, 3] rfl ?_
        exact tL_law_771 C hX hbl hbA hr hlocks hz hB0 hK18 hn hs hf
      have hf := if_s c60 hf
      by_cases c70 : ((xs y3.toNatClampNeg) &&& 31) = 3
      · have hf := it_s c70 hf
        refine b_tabIn C (tgt := 231) (off := 198) dL_law_33 c70 (by decide) (by decide) (by decide) (by decide) ?_
        refine b_aload_n C dL_law_231 1 rfl rfl ?_
        obtain ⟨h71, hf⟩ := gd_s hf
        obtain ⟨h72, hf⟩ := gd_s hf
        obtain ⟨u75, d73, k74, hf⟩ := cb_s hf
        refine b_cVI C [] dL_law_232 (kX11_place l D cy B k74) lv_L_28 ⟨rfl, rfl, Nat.le_of_ble_eq_true rfl, Nat.le_of_ble_eq_true rfl⟩ h71 (by decide) rfl (Nat.le_of_ble_eq_true rfl) h72 rfl ?_
        refine b_popI C dL_law_235 ?_
        refine b_aload_n C dL_law_236 2 rfl rfl ?_
        obtain ⟨h76, hf⟩ := gd_s hf
        obtain ⟨u79, d77, k78, hf⟩ := cb_s hf
        refine b_cVI C [] dL_law_237 (kX12_place l D cy B k78) lv_L_31 ⟨rfl, rfl, Nat.le_of_ble_eq_true rfl, Nat.le_of_ble_eq_true rfl⟩ h76 (by decide) rfl (Nat.le_of_ble_eq_true rfl) h72 rfl ?_
        refine b_popI C dL_law_240 ?_
        refine b_goto C (tgt := 771) dL_law_241 (by decide) ?_
        refine b_sub [(0, .ref b), (1, .ref (ad B y1)), (2, .ref (ad B y2)), (3, .int y3)] [0, 1, 2, 3] rfl ?_
        exact tL_law_771 C hX hbl hbA hr hlocks hz hB0 hK18 hn hs hf
      have hf := if_s c70 hf
      by_cases c80 : ((xs y3.toNatClampNeg) &&& 31) = 4
      · have hf := it_s c80 hf
        refine b_tabIn C (tgt := 244) (off := 211) dL_law_33 c80 (by decide) (by decide) (by decide) (by decide) ?_
        refine b_aload_n C dL_law_244 1 rfl rfl ?_
        refine b_aload_n C dL_law_245 0 rfl rfl ?_
        refine b_iload_n C dL_law_246 3 rfl rfl ?_
        refine b_iconst C (v := 1) dL_law_247 (by decide) ?_
        refine b_iadd C dL_law_248 ?_
        obtain ⟨h81, hf⟩ := gd_s hf
        refine b_sld C hX hbl hbA h81 dL_law_249 ?_
        refine b_aload_n C dL_law_250 0 rfl rfl ?_
        refine b_iload_n C dL_law_251 3 rfl rfl ?_
        refine b_iconst C (v := 2) dL_law_252 (by decide) ?_
        refine b_iadd C dL_law_253 ?_
        obtain ⟨h82, hf⟩ := gd_s hf
        refine b_sld C hX hbl hbA h82 dL_law_254 ?_
        refine b_if_eq C (tgt := 262) dL_law_255 (by decide) (fun c83 => ?_) (fun c83 => ?_)
        · have hf := it_s c83 hf
          refine b_iconst C (v := 0) dL_law_262 (by decide) ?_
          refine b_sub [(0, .ref b), (1, .ref (ad B y1)), (2, .ref (ad B y2)), (3, .int y3)] [0, 1, 2, 3] rfl ?_
          exact tL_law_263 C hX hbl hbA hr hlocks hz hB0 hK18 hn hs hf
        · have hf := if_s c83 hf
          refine b_iconst C (v := 1) dL_law_258 (by decide) ?_
          refine b_goto C (tgt := 263) dL_law_259 (by decide) ?_
          refine b_sub [(0, .ref b), (1, .ref (ad B y1)), (2, .ref (ad B y2)), (3, .int y3)] [0, 1, 2, 3] rfl ?_
          exact tL_law_263 C hX hbl hbA hr hlocks hz hB0 hK18 hn hs hf
      have hf := if_s c80 hf
      by_cases c98 : ((xs y3.toNatClampNeg) &&& 31) = 5
      · have hf := it_s c98 hf
        refine b_tabIn C (tgt := 293) (off := 260) dL_law_33 c98 (by decide) (by decide) (by decide) (by decide) ?_
        refine b_aload_n C dL_law_293 1 rfl rfl ?_
        refine b_aload_n C dL_law_294 0 rfl rfl ?_
        refine b_iload_n C dL_law_295 3 rfl rfl ?_
        refine b_iconst C (v := 1) dL_law_296 (by decide) ?_
        refine b_iadd C dL_law_297 ?_
        obtain ⟨h99, hf⟩ := gd_s hf
        refine b_sld C hX hbl hbA h99 dL_law_298 ?_
        obtain ⟨h100, hf⟩ := gd_s hf
        obtain ⟨h101, hf⟩ := gd_s hf
        obtain ⟨u104, d102, k103, hf⟩ := cb_s hf
        refine b_cVI C [] dL_law_299 (kX11_tick l D cy B k103) lv_L_37 ⟨rfl, rfl, Nat.le_of_ble_eq_true rfl, Nat.le_of_ble_eq_true rfl⟩ h100 (by decide) rfl (Nat.le_of_ble_eq_true rfl) h101 rfl ?_
        refine b_popI C dL_law_302 ?_
        refine b_aload_n C dL_law_303 2 rfl rfl ?_
        refine b_aload_n C dL_law_304 0 rfl rfl ?_
        refine b_iload_n C dL_law_305 3 rfl rfl ?_
        refine b_iconst C (v := 1) dL_law_306 (by decide) ?_
        refine b_iadd C dL_law_307 ?_
        refine b_sld C hX hbl hbA h99 dL_law_308 ?_
        obtain ⟨h105, hf⟩ := gd_s hf
        obtain ⟨u108, d106, k107, hf⟩ := cb_s hf
        refine b_cVI C [] dL_law_309 (kX12_tick l D cy B k107) lv_L_40 ⟨rfl, rfl, Nat.le_of_ble_eq_true rfl, Nat.le_of_ble_eq_true rfl⟩ h105 (by decide) rfl (Nat.le_of_ble_eq_true rfl) h101 rfl ?_
        refine b_popI C dL_law_312 ?_
        refine b_goto C (tgt := 771) dL_law_313 (by decide) ?_
        refine b_sub [(0, .ref b), (1, .ref (ad B y1)), (2, .ref (ad B y2)), (3, .int y3)] [0, 1, 2, 3] rfl ?_
        exact tL_law_771 C hX hbl hbA hr hlocks hz hB0 hK18 hn hs hf
      have hf := if_s c98 hf
      by_cases c109 : ((xs y3.toNatClampNeg) &&& 31) = 6
      · have hf := it_s c109 hf
        refine b_tabIn C (tgt := 316) (off := 283) dL_law_33 c109 (by decide) (by decide) (by decide) (by decide) ?_
        refine b_aload_n C dL_law_316 1 rfl rfl ?_
        refine b_aload_n C dL_law_317 0 rfl rfl ?_
        refine b_iload_n C dL_law_318 3 rfl rfl ?_
        refine b_iconst C (v := 1) dL_law_319 (by decide) ?_
        refine b_iadd C dL_law_320 ?_
        obtain ⟨h110, hf⟩ := gd_s hf
        refine b_sld C hX hbl hbA h110 dL_law_321 ?_
        refine b_aload_n C dL_law_322 0 rfl rfl ?_
        refine b_iload_n C dL_law_323 3 rfl rfl ?_
        refine b_iconst C (v := 2) dL_law_324 (by decide) ?_
        refine b_iadd C dL_law_325 ?_
        obtain ⟨h111, hf⟩ := gd_s hf
        refine b_sld C hX hbl hbA h111 dL_law_326 ?_
        obtain ⟨h112, hf⟩ := gd_s hf
        obtain ⟨h113, hf⟩ := gd_s hf
        obtain ⟨u116, d114, k115, hf⟩ := cb_s hf
        refine b_cVI C [] dL_law_327 (kX11_key l D cy B k115) lv_L_41 ⟨rfl, rfl, Nat.le_of_ble_eq_true rfl, Nat.le_of_ble_eq_true rfl⟩ h112 (by decide) rfl (Nat.le_of_ble_eq_true rfl) h113 rfl ?_
        refine b_popI C dL_law_330 ?_
        refine b_aload_n C dL_law_331 2 rfl rfl ?_
        refine b_aload_n C dL_law_332 0 rfl rfl ?_
        refine b_iload_n C dL_law_333 3 rfl rfl ?_
        refine b_iconst C (v := 1) dL_law_334 (by decide) ?_
        refine b_iadd C dL_law_335 ?_
        refine b_sld C hX hbl hbA h110 dL_law_336 ?_
        refine b_aload_n C dL_law_337 0 rfl rfl ?_
        refine b_iload_n C dL_law_338 3 rfl rfl ?_
        refine b_iconst C (v := 2) dL_law_339 (by decide) ?_
        refine b_iadd C dL_law_340 ?_
        refine b_sld C hX hbl hbA h111 dL_law_341 ?_
        obtain ⟨h117, hf⟩ := gd_s hf
        obtain ⟨u120, d118, k119, hf⟩ := cb_s hf
        refine b_cVI C [] dL_law_342 (kX12_key l D cy B k119) lv_L_45 ⟨rfl, rfl, Nat.le_of_ble_eq_true rfl, Nat.le_of_ble_eq_true rfl⟩ h117 (by decide) rfl (Nat.le_of_ble_eq_true rfl) h113 rfl ?_
        refine b_popI C dL_law_345 ?_
        refine b_goto C (tgt := 771) dL_law_346 (by decide) ?_
        refine b_sub [(0, .ref b), (1, .ref (ad B y1)), (2, .ref (ad B y2)), (3, .int y3)] [0, 1, 2, 3] rfl ?_
        exact tL_law_771 C hX hbl hbA hr hlocks hz hB0 hK18 hn hs hf
      have hf := if_s c109 hf
      by_cases c121 : ((xs y3.toNatClampNeg) &&& 31) = 7
      · have hf := it_s c121 hf
        refine b_tabIn C (tgt := 349) (off := 316) dL_law_33 c121 (by decide) (by decide) (by decide) (by decide) ?_
        refine b_aload_n C dL_law_349 1 rfl rfl ?_
        refine b_aload_n C dL_law_350 0 rfl rfl ?_
        refine b_iload_n C dL_law_351 3 rfl rfl ?_
        refine b_iconst C (v := 1) dL_law_352 (by decide) ?_
        refine b_iadd C dL_law_353 ?_
        obtain ⟨h122, hf⟩ := gd_s hf
        refine b_sld C hX hbl hbA h122 dL_law_354 ?_
        refine b_aload_n C dL_law_355 0 rfl rfl ?_
        refine b_iload_n C dL_law_356 3 rfl rfl ?_
        refine b_iconst C (v := 2) dL_law_357 (by decide) ?_
        refine b_iadd C dL_law_358 ?_
        obtain ⟨h123, hf⟩ := gd_s hf
        refine b_sld C hX hbl hbA h123 dL_law_359 ?_
        refine b_aload_n C dL_law_360 0 rfl rfl ?_
        refine b_iload_n C dL_law_361 3 rfl rfl ?_
        refine b_iconst C (v := 3) dL_law_362 (by decide) ?_
        refine b_iadd C dL_law_363 ?_
        obtain ⟨h124, hf⟩ := gd_s hf
        refine b_sld C hX hbl hbA h124 dL_law_364 ?_
        obtain ⟨h125, hf⟩ := gd_s hf
        obtain ⟨h126, hf⟩ := gd_s hf
        obtain ⟨u129, d127, k128, hf⟩ := cb_s hf
        refine b_cVI C [] dL_law_365 (kX11_deed l D cy B k128) lv_L_46 ⟨rfl, rfl, Nat.le_of_ble_eq_true rfl, Nat.le_of_ble_eq_true rfl⟩ h125 (by decide) rfl (Nat.le_of_ble_eq_true rfl) h126 rfl ?_
        refine b_popI C dL_law_368 ?_
        refine b_aload_n C dL_law_369 2 rfl rfl ?_
        refine b_aload_n C dL_law_370 0 rfl rfl ?_
        refine b_iload_n C dL_law_371 3 rfl rfl ?_
        refine b_iconst C (v := 1) dL_law_372 (by decide) ?_
        refine b_iadd C dL_law_373 ?_
        refine b_sld C hX hbl hbA h122 dL_law_374 ?_
        refine b_aload_n C dL_law_375 0 rfl rfl ?_
        refine b_iload_n C dL_law_376 3 rfl rfl ?_
        refine b_iconst C (v := 2) dL_law_377 (by decide) ?_
        refine b_iadd C dL_law_378 ?_
        refine b_sld C hX hbl hbA h123 dL_law_379 ?_
        refine b_aload_n C dL_law_380 0 rfl rfl ?_
        refine b_iload_n C dL_law_381 3 rfl rfl ?_
        refine b_iconst C (v := 3) dL_law_382 (by decide) ?_
        refine b_iadd C dL_law_383 ?_
        refine b_sld C hX hbl hbA h124 dL_law_384 ?_
        obtain ⟨h130, hf⟩ := gd_s hf
        obtain ⟨u133, d131, k132, hf⟩ := cb_s hf
        refine b_cVI C [] dL_law_385 (kX12_deed l D cy B k132) lv_L_50 ⟨rfl, rfl, Nat.le_of_ble_eq_true rfl, Nat.le_of_ble_eq_true rfl⟩ h130 (by decide) rfl (Nat.le_of_ble_eq_true rfl) h126 rfl ?_
        refine b_popI C dL_law_388 ?_
        refine b_sub [(0, .ref b), (1, .ref (ad B y1)), (2, .ref (ad B y2)), (3, .int y3)] [0, 1, 2, 3] rfl ?_
        exact tL_law_389 C hX hbl hbA hr hlocks hz hB0 hK18 hn hs hf
      have hf := if_s c121 hf
      by_cases c134 : ((xs y3.toNatClampNeg) &&& 31) = 8
      · have hf := it_s c134 hf
        refine b_tabIn C (tgt := 392) (off := 359) dL_law_33 c134 (by decide) (by decide) (by decide) (by decide) ?_
        refine b_aload_n C dL_law_392 1 rfl rfl ?_
        refine b_aload_n C dL_law_393 0 rfl rfl ?_
        refine b_iload_n C dL_law_394 3 rfl rfl ?_
        refine b_iconst C (v := 1) dL_law_395 (by decide) ?_
        refine b_iadd C dL_law_396 ?_
        obtain ⟨h135, hf⟩ := gd_s hf
        refine b_sld C hX hbl hbA h135 dL_law_397 ?_
        refine b_aload_n C dL_law_398 0 rfl rfl ?_
        refine b_iload_n C dL_law_399 3 rfl rfl ?_
        refine b_iconst C (v := 2) dL_law_400 (by decide) ?_
        refine b_iadd C dL_law_401 ?_
        obtain ⟨h136, hf⟩ := gd_s hf
        refine b_sld C hX hbl hbA h136 dL_law_402 ?_
        obtain ⟨h137, hf⟩ := gd_s hf
        obtain ⟨h138, hf⟩ := gd_s hf
        obtain ⟨u141, d139, k140, hf⟩ := cb_s hf
        refine b_cVI C [] dL_law_403 (kX11_does l D cy B k140) lv_L_51 ⟨rfl, rfl, Nat.le_of_ble_eq_true rfl, Nat.le_of_ble_eq_true rfl⟩ h137 (by decide) rfl (Nat.le_of_ble_eq_true rfl) h138 rfl ?_
        refine b_popI C dL_law_406 ?_
        refine b_aload_n C dL_law_407 2 rfl rfl ?_
        refine b_aload_n C dL_law_408 0 rfl rfl ?_
        refine b_iload_n C dL_law_409 3 rfl rfl ?_
        refine b_iconst C (v := 1) dL_law_410 (by decide) ?_
        refine b_iadd C dL_law_411 ?_
        refine b_sld C hX hbl hbA h135 dL_law_412 ?_
        refine b_aload_n C dL_law_413 0 rfl rfl ?_
        refine b_iload_n C dL_law_414 3 rfl rfl ?_
        refine b_iconst C (v := 2) dL_law_415 (by decide) ?_
        refine b_iadd C dL_law_416 ?_
        refine b_sld C hX hbl hbA h136 dL_law_417 ?_
        obtain ⟨h142, hf⟩ := gd_s hf
        obtain ⟨u145, d143, k144, hf⟩ := cb_s hf
        refine b_cVI C [] dL_law_418 (kX12_does l D cy B k144) lv_L_54 ⟨rfl, rfl, Nat.le_of_ble_eq_true rfl, Nat.le_of_ble_eq_true rfl⟩ h142 (by decide) rfl (Nat.le_of_ble_eq_true rfl) h138 rfl ?_
        refine b_popI C dL_law_421 ?_
        refine b_goto C (tgt := 771) dL_law_422 (by decide) ?_
        refine b_sub [(0, .ref b), (1, .ref (ad B y1)), (2, .ref (ad B y2)), (3, .int y3)] [0, 1, 2, 3] rfl ?_
        exact tL_law_771 C hX hbl hbA hr hlocks hz hB0 hK18 hn hs hf
      have hf := if_s c134 hf
      by_cases c146 : ((xs y3.toNatClampNeg) &&& 31) = 9
      · have hf := it_s c146 hf
        refine b_tabIn C (tgt := 425) (off := 392) dL_law_33 c146 (by decide) (by decide) (by decide) (by decide) ?_
        refine b_aload_n C dL_law_425 1 rfl rfl ?_
        refine b_aload_n C dL_law_426 0 rfl rfl ?_
        refine b_iload_n C dL_law_427 3 rfl rfl ?_
        refine b_iconst C (v := 1) dL_law_428 (by decide) ?_
        refine b_iadd C dL_law_429 ?_
        obtain ⟨h147, hf⟩ := gd_s hf
        refine b_sld C hX hbl hbA h147 dL_law_430 ?_
        refine b_aload_n C dL_law_431 0 rfl rfl ?_
        refine b_iload_n C dL_law_432 3 rfl rfl ?_
        refine b_iconst C (v := 2) dL_law_433 (by decide) ?_
        refine b_iadd C dL_law_434 ?_
        obtain ⟨h148, hf⟩ := gd_s hf
        refine b_sld C hX hbl hbA h148 dL_law_435 ?_
        obtain ⟨h149, hf⟩ := gd_s hf
        obtain ⟨h150, hf⟩ := gd_s hf
        obtain ⟨u153, d151, k152, hf⟩ := cb_s hf
        refine b_cVI C [] dL_law_436 (kX11_event l D cy B k152) lv_L_55 ⟨rfl, rfl, Nat.le_of_ble_eq_true rfl, Nat.le_of_ble_eq_true rfl⟩ h149 (by decide) rfl (Nat.le_of_ble_eq_true rfl) h150 rfl ?_
        refine b_popI C dL_law_439 ?_
        refine b_aload_n C dL_law_440 2 rfl rfl ?_
        refine b_aload_n C dL_law_441 0 rfl rfl ?_
        refine b_iload_n C dL_law_442 3 rfl rfl ?_
        refine b_iconst C (v := 1) dL_law_443 (by decide) ?_
        refine b_iadd C dL_law_444 ?_
        refine b_sld C hX hbl hbA h147 dL_law_445 ?_
        refine b_aload_n C dL_law_446 0 rfl rfl ?_
        refine b_iload_n C dL_law_447 3 rfl rfl ?_
        refine b_iconst C (v := 2) dL_law_448 (by decide) ?_
        refine b_iadd C dL_law_449 ?_
        refine b_sld C hX hbl hbA h148 dL_law_450 ?_
        obtain ⟨h154, hf⟩ := gd_s hf
        obtain ⟨u157, d155, k156, hf⟩ := cb_s hf
        refine b_cVI C [] dL_law_451 (kX12_event l D cy B k156) lv_L_58 ⟨rfl, rfl, Nat.le_of_ble_eq_true rfl, Nat.le_of_ble_eq_true rfl⟩ h154 (by decide) rfl (Nat.le_of_ble_eq_true rfl) h150 rfl ?_
        refine b_popI C dL_law_454 ?_
        refine b_goto C (tgt := 771) dL_law_455 (by decide) ?_
        refine b_sub [(0, .ref b), (1, .ref (ad B y1)), (2, .ref (ad B y2)), (3, .int y3)] [0, 1, 2, 3] rfl ?_
        exact tL_law_771 C hX hbl hbA hr hlocks hz hB0 hK18 hn hs hf
      have hf := if_s c146 hf
      by_cases c158 : ((xs y3.toNatClampNeg) &&& 31) = 10
      · have hf := it_s c158 hf
        refine b_tabIn C (tgt := 458) (off := 425) dL_law_33 c158 (by decide) (by decide) (by decide) (by decide) ?_
        refine b_aload_n C dL_law_458 1 rfl rfl ?_
        refine b_aload_n C dL_law_459 0 rfl rfl ?_
        refine b_iload_n C dL_law_460 3 rfl rfl ?_
        refine b_iconst C (v := 1) dL_law_461 (by decide) ?_
        refine b_iadd C dL_law_462 ?_
        obtain ⟨h159, hf⟩ := gd_s hf
        refine b_sld C hX hbl hbA h159 dL_law_463 ?_
        refine b_aload_n C dL_law_464 0 rfl rfl ?_
        refine b_iload_n C dL_law_465 3 rfl rfl ?_
        refine b_iconst C (v := 2) dL_law_466 (by decide) ?_
        refine b_iadd C dL_law_467 ?_
        obtain ⟨h160, hf⟩ := gd_s hf
        refine b_sld C hX hbl hbA h160 dL_law_468 ?_
        obtain ⟨h161, hf⟩ := gd_s hf
        obtain ⟨h162, hf⟩ := gd_s hf
        obtain ⟨u165, d163, k164, hf⟩ := cb_s hf
        refine b_cVI C [] dL_law_469 (kX11_report l D cy B k164) lv_L_59 ⟨rfl, rfl, Nat.le_of_ble_eq_true rfl, Nat.le_of_ble_eq_true rfl⟩ h161 (by decide) rfl (Nat.le_of_ble_eq_true rfl) h162 rfl ?_
        refine b_popI C dL_law_472 ?_
        refine b_aload_n C dL_law_473 2 rfl rfl ?_
        refine b_aload_n C dL_law_474 0 rfl rfl ?_
        refine b_iload_n C dL_law_475 3 rfl rfl ?_
        refine b_iconst C (v := 1) dL_law_476 (by decide) ?_
        refine b_iadd C dL_law_477 ?_
        refine b_sld C hX hbl hbA h159 dL_law_478 ?_
        refine b_aload_n C dL_law_479 0 rfl rfl ?_
        refine b_iload_n C dL_law_480 3 rfl rfl ?_
        refine b_iconst C (v := 2) dL_law_481 (by decide) ?_
        refine b_iadd C dL_law_482 ?_
        refine b_sld C hX hbl hbA h160 dL_law_483 ?_
        obtain ⟨h166, hf⟩ := gd_s hf
        obtain ⟨u169, d167, k168, hf⟩ := cb_s hf
        refine b_cVI C [] dL_law_484 (kX12_report l D cy B k168) lv_L_62 ⟨rfl, rfl, Nat.le_of_ble_eq_true rfl, Nat.le_of_ble_eq_true rfl⟩ h166 (by decide) rfl (Nat.le_of_ble_eq_true rfl) h162 rfl ?_
        refine b_popI C dL_law_487 ?_
        refine b_sub [(0, .ref b), (1, .ref (ad B y1)), (2, .ref (ad B y2)), (3, .int y3)] [0, 1, 2, 3] rfl ?_
        exact tL_law_488 C hX hbl hbA hr hlocks hz hB0 hK18 hn hs hf
      have hf := if_s c158 hf
      by_cases c170 : ((xs y3.toNatClampNeg) &&& 31) = 11
      · have hf := it_s c170 hf
        refine b_tabIn C (tgt := 491) (off := 458) dL_law_33 c170 (by decide) (by decide) (by decide) (by decide) ?_
        refine b_aload_n C dL_law_491 1 rfl rfl ?_
        refine b_aload_n C dL_law_492 0 rfl rfl ?_
        refine b_iload_n C dL_law_493 3 rfl rfl ?_
        refine b_iconst C (v := 1) dL_law_494 (by decide) ?_
        refine b_iadd C dL_law_495 ?_
        obtain ⟨h171, hf⟩ := gd_s hf
        refine b_sld C hX hbl hbA h171 dL_law_496 ?_
        obtain ⟨h172, hf⟩ := gd_s hf
        obtain ⟨h173, hf⟩ := gd_s hf
        obtain ⟨u176, d174, k175, hf⟩ := cb_s hf
        refine b_cVI C [] dL_law_497 (kX11_sent l D cy B k175) lv_L_63 ⟨rfl, rfl, Nat.le_of_ble_eq_true rfl, Nat.le_of_ble_eq_true rfl⟩ h172 (by decide) rfl (Nat.le_of_ble_eq_true rfl) h173 rfl ?_
        refine b_popI C dL_law_500 ?_
        refine b_aload_n C dL_law_501 2 rfl rfl ?_
        refine b_aload_n C dL_law_502 0 rfl rfl ?_
        refine b_iload_n C dL_law_503 3 rfl rfl ?_
        refine b_iconst C (v := 1) dL_law_504 (by decide) ?_
        refine b_iadd C dL_law_505 ?_
        refine b_sld C hX hbl hbA h171 dL_law_506 ?_
        obtain ⟨h177, hf⟩ := gd_s hf
        obtain ⟨u180, d178, k179, hf⟩ := cb_s hf
        refine b_cVI C [] dL_law_507 (kX12_sent l D cy B k179) lv_L_66 ⟨rfl, rfl, Nat.le_of_ble_eq_true rfl, Nat.le_of_ble_eq_true rfl⟩ h177 (by decide) rfl (Nat.le_of_ble_eq_true rfl) h173 rfl ?_
        refine b_popI C dL_law_510 ?_
        refine b_goto C (tgt := 771) dL_law_511 (by decide) ?_
        refine b_sub [(0, .ref b), (1, .ref (ad B y1)), (2, .ref (ad B y2)), (3, .int y3)] [0, 1, 2, 3] rfl ?_
        exact tL_law_771 C hX hbl hbA hr hlocks hz hB0 hK18 hn hs hf
      have hf := if_s c170 hf
      by_cases c181 : ((xs y3.toNatClampNeg) &&& 31) = 12
      · have hf := it_s c181 hf
        refine b_tabIn C (tgt := 514) (off := 481) dL_law_33 c181 (by decide) (by decide) (by decide) (by decide) ?_
        refine b_aload_n C dL_law_514 1 rfl rfl ?_
        refine b_aload_n C dL_law_515 0 rfl rfl ?_
        refine b_iload_n C dL_law_516 3 rfl rfl ?_
        refine b_iconst C (v := 1) dL_law_517 (by decide) ?_
        refine b_iadd C dL_law_518 ?_
        obtain ⟨h182, hf⟩ := gd_s hf
        refine b_sld C hX hbl hbA h182 dL_law_519 ?_
        obtain ⟨h183, hf⟩ := gd_s hf
        obtain ⟨h184, hf⟩ := gd_s hf
        obtain ⟨u187, d185, k186, hf⟩ := cb_s hf
        refine b_cVI C [] dL_law_520 (kX11_host l D cy B k186) lv_L_67 ⟨rfl, rfl, Nat.le_of_ble_eq_true rfl, Nat.le_of_ble_eq_true rfl⟩ h183 (by decide) rfl (Nat.le_of_ble_eq_true rfl) h184 rfl ?_
        refine b_popI C dL_law_523 ?_
        refine b_aload_n C dL_law_524 2 rfl rfl ?_
        refine b_aload_n C dL_law_525 0 rfl rfl ?_
        refine b_iload_n C dL_law_526 3 rfl rfl ?_
        refine b_iconst C (v := 1) dL_law_527 (by decide) ?_
        refine b_iadd C dL_law_528 ?_
        refine b_sld C hX hbl hbA h182 dL_law_529 ?_
        obtain ⟨h188, hf⟩ := gd_s hf
        obtain ⟨u191, d189, k190, hf⟩ := cb_s hf
        refine b_cVI C [] dL_law_530 (kX12_host l D cy B k190) lv_L_70 ⟨rfl, rfl, Nat.le_of_ble_eq_true rfl, Nat.le_of_ble_eq_true rfl⟩ h188 (by decide) rfl (Nat.le_of_ble_eq_true rfl) h184 rfl ?_
        refine b_popI C dL_law_533 ?_
        refine b_goto C (tgt := 771) dL_law_534 (by decide) ?_
        refine b_sub [(0, .ref b), (1, .ref (ad B y1)), (2, .ref (ad B y2)), (3, .int y3)] [0, 1, 2, 3] rfl ?_
        exact tL_law_771 C hX hbl hbA hr hlocks hz hB0 hK18 hn hs hf
      have hf := if_s c181 hf
      by_cases c192 : ((xs y3.toNatClampNeg) &&& 31) = 13
      · have hf := it_s c192 hf
        refine b_tabIn C (tgt := 537) (off := 504) dL_law_33 c192 (by decide) (by decide) (by decide) (by decide) ?_
        refine b_aload_n C dL_law_537 1 rfl rfl ?_
        refine b_aload_n C dL_law_538 0 rfl rfl ?_
        refine b_iload_n C dL_law_539 3 rfl rfl ?_
        refine b_iconst C (v := 1) dL_law_540 (by decide) ?_
        refine b_iadd C dL_law_541 ?_
        obtain ⟨h193, hf⟩ := gd_s hf
        refine b_sld C hX hbl hbA h193 dL_law_542 ?_
        refine b_aload_n C dL_law_543 0 rfl rfl ?_
        refine b_iload_n C dL_law_544 3 rfl rfl ?_
        refine b_iconst C (v := 2) dL_law_545 (by decide) ?_
        refine b_iadd C dL_law_546 ?_
        obtain ⟨h194, hf⟩ := gd_s hf
        refine b_sld C hX hbl hbA h194 dL_law_547 ?_
        obtain ⟨h195, hf⟩ := gd_s hf
        obtain ⟨h196, hf⟩ := gd_s hf
        obtain ⟨u199, d197, k198, hf⟩ := cb_s hf
        refine b_cVI C [] dL_law_548 (kX11_strokes l D cy B k198) lv_L_71 ⟨rfl, rfl, Nat.le_of_ble_eq_true rfl, Nat.le_of_ble_eq_true rfl⟩ h195 (by decide) rfl (Nat.le_of_ble_eq_true rfl) h196 rfl ?_
        refine b_popI C dL_law_551 ?_
        refine b_aload_n C dL_law_552 2 rfl rfl ?_
        refine b_aload_n C dL_law_553 0 rfl rfl ?_
        refine b_iload_n C dL_law_554 3 rfl rfl ?_
        refine b_iconst C (v := 1) dL_law_555 (by decide) ?_
        refine b_iadd C dL_law_556 ?_
        refine b_sld C hX hbl hbA h193 dL_law_557 ?_
        refine b_aload_n C dL_law_558 0 rfl rfl ?_
        refine b_iload_n C dL_law_559 3 rfl rfl ?_
        refine b_iconst C (v := 2) dL_law_560 (by decide) ?_
        refine b_iadd C dL_law_561 ?_
        refine b_sld C hX hbl hbA h194 dL_law_562 ?_
        obtain ⟨h200, hf⟩ := gd_s hf
        obtain ⟨u203, d201, k202, hf⟩ := cb_s hf
        refine b_cVI C [] dL_law_563 (kX12_strokes l D cy B k202) lv_L_74 ⟨rfl, rfl, Nat.le_of_ble_eq_true rfl, Nat.le_of_ble_eq_true rfl⟩ h200 (by decide) rfl (Nat.le_of_ble_eq_true rfl) h196 rfl ?_
        refine b_popI C dL_law_566 ?_
        refine b_goto C (tgt := 771) dL_law_567 (by decide) ?_
        refine b_sub [(0, .ref b), (1, .ref (ad B y1)), (2, .ref (ad B y2)), (3, .int y3)] [0, 1, 2, 3] rfl ?_
        exact tL_law_771 C hX hbl hbA hr hlocks hz hB0 hK18 hn hs hf
      have hf := if_s c192 hf
      by_cases c204 : ((xs y3.toNatClampNeg) &&& 31) = 14
      · have hf := it_s c204 hf
        refine b_tabIn C (tgt := 570) (off := 537) dL_law_33 c204 (by decide) (by decide) (by decide) (by decide) ?_
        refine b_aload_n C dL_law_570 1 rfl rfl ?_
        refine b_aload_n C dL_law_571 0 rfl rfl ?_
        refine b_iload_n C dL_law_572 3 rfl rfl ?_
        refine b_iconst C (v := 1) dL_law_573 (by decide) ?_
        refine b_iadd C dL_law_574 ?_
        obtain ⟨h205, hf⟩ := gd_s hf
        refine b_sld C hX hbl hbA h205 dL_law_575 ?_
        refine b_aload_n C dL_law_576 0 rfl rfl ?_
        refine b_iload_n C dL_law_577 3 rfl rfl ?_
        refine b_iconst C (v := 2) dL_law_578 (by decide) ?_
        refine b_iadd C dL_law_579 ?_
        obtain ⟨h206, hf⟩ := gd_s hf
        refine b_sld C hX hbl hbA h206 dL_law_580 ?_
        obtain ⟨h207, hf⟩ := gd_s hf
        obtain ⟨h208, hf⟩ := gd_s hf
        obtain ⟨u211, d209, k210, hf⟩ := cb_s hf
        refine b_cVI C [] dL_law_581 (kX11_chord l D cy B k210) lv_L_75 ⟨rfl, rfl, Nat.le_of_ble_eq_true rfl, Nat.le_of_ble_eq_true rfl⟩ h207 (by decide) rfl (Nat.le_of_ble_eq_true rfl) h208 rfl ?_
        refine b_popI C dL_law_584 ?_
        refine b_sub [(0, .ref b), (1, .ref (ad B y1)), (2, .ref (ad B y2)), (3, .int y3)] [0, 1, 2, 3] rfl ?_
        exact tL_law_585 C hX hbl hbA hr hlocks hz hB0 hK18 hn hs hf
      have hf := if_s c204 hf
      by_cases c219 : ((xs y3.toNatClampNeg) &&& 31) = 15
      · have hf := it_s c219 hf
        refine b_tabIn C (tgt := 603) (off := 570) dL_law_33 c219 (by decide) (by decide) (by decide) (by decide) ?_
        refine b_aload_n C dL_law_603 1 rfl rfl ?_
        refine b_aload_n C dL_law_604 0 rfl rfl ?_
        refine b_iload_n C dL_law_605 3 rfl rfl ?_
        refine b_iconst C (v := 1) dL_law_606 (by decide) ?_
        refine b_iadd C dL_law_607 ?_
        obtain ⟨h220, hf⟩ := gd_s hf
        refine b_sld C hX hbl hbA h220 dL_law_608 ?_
        refine b_aload_n C dL_law_609 0 rfl rfl ?_
        refine b_iload_n C dL_law_610 3 rfl rfl ?_
        refine b_iconst C (v := 2) dL_law_611 (by decide) ?_
        refine b_iadd C dL_law_612 ?_
        obtain ⟨h221, hf⟩ := gd_s hf
        refine b_sld C hX hbl hbA h221 dL_law_613 ?_
        obtain ⟨h222, hf⟩ := gd_s hf
        obtain ⟨h223, hf⟩ := gd_s hf
        obtain ⟨u226, d224, k225, hf⟩ := cb_s hf
        refine b_cVI C [] dL_law_614 (kX11_macro l D cy B k225) lv_L_79 ⟨rfl, rfl, Nat.le_of_ble_eq_true rfl, Nat.le_of_ble_eq_true rfl⟩ h222 (by decide) rfl (Nat.le_of_ble_eq_true rfl) h223 rfl ?_
        refine b_popI C dL_law_617 ?_
        refine b_aload_n C dL_law_618 2 rfl rfl ?_
        refine b_aload_n C dL_law_619 0 rfl rfl ?_
        refine b_iload_n C dL_law_620 3 rfl rfl ?_
        refine b_iconst C (v := 1) dL_law_621 (by decide) ?_
        refine b_iadd C dL_law_622 ?_
        refine b_sld C hX hbl hbA h220 dL_law_623 ?_
        refine b_aload_n C dL_law_624 0 rfl rfl ?_
        refine b_iload_n C dL_law_625 3 rfl rfl ?_
        refine b_iconst C (v := 2) dL_law_626 (by decide) ?_
        refine b_iadd C dL_law_627 ?_
        refine b_sld C hX hbl hbA h221 dL_law_628 ?_
        obtain ⟨h227, hf⟩ := gd_s hf
        obtain ⟨u230, d228, k229, hf⟩ := cb_s hf
        refine b_cVI C [] dL_law_629 (kX12_macro l D cy B k229) lv_L_82 ⟨rfl, rfl, Nat.le_of_ble_eq_true rfl, Nat.le_of_ble_eq_true rfl⟩ h227 (by decide) rfl (Nat.le_of_ble_eq_true rfl) h223 rfl ?_
        refine b_popI C dL_law_632 ?_
        refine b_goto C (tgt := 771) dL_law_633 (by decide) ?_
        refine b_sub [(0, .ref b), (1, .ref (ad B y1)), (2, .ref (ad B y2)), (3, .int y3)] [0, 1, 2, 3] rfl ?_
        exact tL_law_771 C hX hbl hbA hr hlocks hz hB0 hK18 hn hs hf
      have hf := if_s c219 hf
      by_cases c231 : ((xs y3.toNatClampNeg) &&& 31) = 16
      · have hf := it_s c231 hf
        refine b_tabIn C (tgt := 636) (off := 603) dL_law_33 c231 (by decide) (by decide) (by decide) (by decide) ?_
        refine b_aload_n C dL_law_636 1 rfl rfl ?_
        refine b_aload_n C dL_law_637 0 rfl rfl ?_
        refine b_iload_n C dL_law_638 3 rfl rfl ?_
        refine b_iconst C (v := 1) dL_law_639 (by decide) ?_
        refine b_iadd C dL_law_640 ?_
        obtain ⟨h232, hf⟩ := gd_s hf
        refine b_sld C hX hbl hbA h232 dL_law_641 ?_
        refine b_aload_n C dL_law_642 0 rfl rfl ?_
        refine b_iload_n C dL_law_643 3 rfl rfl ?_
        refine b_iconst C (v := 2) dL_law_644 (by decide) ?_
        refine b_iadd C dL_law_645 ?_
        obtain ⟨h233, hf⟩ := gd_s hf
        refine b_sld C hX hbl hbA h233 dL_law_646 ?_
        obtain ⟨h234, hf⟩ := gd_s hf
        obtain ⟨h235, hf⟩ := gd_s hf
        obtain ⟨u238, d236, k237, hf⟩ := cb_s hf
        refine b_cVI C [] dL_law_647 (kX11_ghosts l D cy B k237) lv_L_83 ⟨rfl, rfl, Nat.le_of_ble_eq_true rfl, Nat.le_of_ble_eq_true rfl⟩ h234 (by decide) rfl (Nat.le_of_ble_eq_true rfl) h235 rfl ?_
        refine b_popI C dL_law_650 ?_
        refine b_aload_n C dL_law_651 2 rfl rfl ?_
        refine b_aload_n C dL_law_652 0 rfl rfl ?_
        refine b_iload_n C dL_law_653 3 rfl rfl ?_
        refine b_iconst C (v := 1) dL_law_654 (by decide) ?_
        refine b_iadd C dL_law_655 ?_
        refine b_sld C hX hbl hbA h232 dL_law_656 ?_
        refine b_aload_n C dL_law_657 0 rfl rfl ?_
        refine b_iload_n C dL_law_658 3 rfl rfl ?_
        refine b_iconst C (v := 2) dL_law_659 (by decide) ?_
        refine b_iadd C dL_law_660 ?_
        refine b_sld C hX hbl hbA h233 dL_law_661 ?_
        obtain ⟨h239, hf⟩ := gd_s hf
        obtain ⟨u242, d240, k241, hf⟩ := cb_s hf
        refine b_cVI C [] dL_law_662 (kX12_ghosts l D cy B k241) lv_L_86 ⟨rfl, rfl, Nat.le_of_ble_eq_true rfl, Nat.le_of_ble_eq_true rfl⟩ h239 (by decide) rfl (Nat.le_of_ble_eq_true rfl) h235 rfl ?_
        refine b_popI C dL_law_665 ?_
        refine b_goto C (tgt := 771) dL_law_666 (by decide) ?_
        refine b_sub [(0, .ref b), (1, .ref (ad B y1)), (2, .ref (ad B y2)), (3, .int y3)] [0, 1, 2, 3] rfl ?_
        exact tL_law_771 C hX hbl hbA hr hlocks hz hB0 hK18 hn hs hf
      have hf := if_s c231 hf
      by_cases c243 : ((xs y3.toNatClampNeg) &&& 31) = 17
      · have hf := it_s c243 hf
        refine b_tabIn C (tgt := 669) (off := 636) dL_law_33 c243 (by decide) (by decide) (by decide) (by decide) ?_
        refine b_aload_n C dL_law_669 1 rfl rfl ?_
        refine b_aload_n C dL_law_670 0 rfl rfl ?_
        refine b_iload_n C dL_law_671 3 rfl rfl ?_
        refine b_iconst C (v := 1) dL_law_672 (by decide) ?_
        refine b_iadd C dL_law_673 ?_
        obtain ⟨h244, hf⟩ := gd_s hf
        refine b_sld C hX hbl hbA h244 dL_law_674 ?_
        refine b_aload_n C dL_law_675 0 rfl rfl ?_
        refine b_iload_n C dL_law_676 3 rfl rfl ?_
        refine b_iconst C (v := 2) dL_law_677 (by decide) ?_
        refine b_iadd C dL_law_678 ?_
        obtain ⟨h245, hf⟩ := gd_s hf
        refine b_sld C hX hbl hbA h245 dL_law_679 ?_
        obtain ⟨h246, hf⟩ := gd_s hf
        obtain ⟨h247, hf⟩ := gd_s hf
        obtain ⟨u250, d248, k249, hf⟩ := cb_s hf
        refine b_cVI C [] dL_law_680 (kX11_ahead l D cy B k249) lv_L_87 ⟨rfl, rfl, Nat.le_of_ble_eq_true rfl, Nat.le_of_ble_eq_true rfl⟩ h246 (by decide) rfl (Nat.le_of_ble_eq_true rfl) h247 rfl ?_
        refine b_popI C dL_law_683 ?_
        refine b_sub [(0, .ref b), (1, .ref (ad B y1)), (2, .ref (ad B y2)), (3, .int y3)] [0, 1, 2, 3] rfl ?_
        exact tL_law_684 C hX hbl hbA hr hlocks hz hB0 hK18 hn hs hf
      have hf := if_s c243 hf
      by_cases c258 : ((xs y3.toNatClampNeg) &&& 31) = 18
      · have hf := it_s c258 hf
        refine b_tabIn C (tgt := 702) (off := 669) dL_law_33 c258 (by decide) (by decide) (by decide) (by decide) ?_
        refine b_aload_n C dL_law_702 1 rfl rfl ?_
        refine b_aload_n C dL_law_703 0 rfl rfl ?_
        refine b_iload_n C dL_law_704 3 rfl rfl ?_
        refine b_iconst C (v := 1) dL_law_705 (by decide) ?_
        refine b_iadd C dL_law_706 ?_
        obtain ⟨h259, hf⟩ := gd_s hf
        refine b_sld C hX hbl hbA h259 dL_law_707 ?_
        obtain ⟨h260, hf⟩ := gd_s hf
        obtain ⟨h261, hf⟩ := gd_s hf
        obtain ⟨u264, d262, k263, hf⟩ := cb_s hf
        refine b_cVI C [] dL_law_708 (kX11_hold l D cy B k263) lv_L_91 ⟨rfl, rfl, Nat.le_of_ble_eq_true rfl, Nat.le_of_ble_eq_true rfl⟩ h260 (by decide) rfl (Nat.le_of_ble_eq_true rfl) h261 rfl ?_
        refine b_popI C dL_law_711 ?_
        refine b_aload_n C dL_law_712 2 rfl rfl ?_
        refine b_aload_n C dL_law_713 0 rfl rfl ?_
        refine b_iload_n C dL_law_714 3 rfl rfl ?_
        refine b_iconst C (v := 1) dL_law_715 (by decide) ?_
        refine b_iadd C dL_law_716 ?_
        refine b_sld C hX hbl hbA h259 dL_law_717 ?_
        obtain ⟨h265, hf⟩ := gd_s hf
        obtain ⟨u268, d266, k267, hf⟩ := cb_s hf
        refine b_cVI C [] dL_law_718 (kX12_hold l D cy B k267) lv_L_95 ⟨rfl, rfl, Nat.le_of_ble_eq_true rfl, Nat.le_of_ble_eq_true rfl⟩ h265 (by decide) rfl (Nat.le_of_ble_eq_true rfl) h261 rfl ?_
        refine b_popI C dL_law_721 ?_
        refine b_goto C (tgt := 771) dL_law_722 (by decide) ?_
        refine b_sub [(0, .ref b), (1, .ref (ad B y1)), (2, .ref (ad B y2)), (3, .int y3)] [0, 1, 2, 3] rfl ?_
        exact tL_law_771 C hX hbl hbA hr hlocks hz hB0 hK18 hn hs hf
      have hf := if_s c258 hf
      by_cases c269 : ((xs y3.toNatClampNeg) &&& 31) = 19
      · have hf := it_s c269 hf
        refine b_tabIn C (tgt := 725) (off := 692) dL_law_33 c269 (by decide) (by decide) (by decide) (by decide) ?_
        refine b_aload_n C dL_law_725 1 rfl rfl ?_
        refine b_aload_n C dL_law_726 0 rfl rfl ?_
        refine b_iload_n C dL_law_727 3 rfl rfl ?_
        refine b_iconst C (v := 1) dL_law_728 (by decide) ?_
        refine b_iadd C dL_law_729 ?_
        obtain ⟨h270, hf⟩ := gd_s hf
        refine b_sld C hX hbl hbA h270 dL_law_730 ?_
        obtain ⟨h271, hf⟩ := gd_s hf
        obtain ⟨h272, hf⟩ := gd_s hf
        obtain ⟨u275, d273, k274, hf⟩ := cb_s hf
        refine b_cVI C [] dL_law_731 (kX11_restore l D cy B k274) lv_L_96 ⟨rfl, rfl, Nat.le_of_ble_eq_true rfl, Nat.le_of_ble_eq_true rfl⟩ h271 (by decide) rfl (Nat.le_of_ble_eq_true rfl) h272 rfl ?_
        refine b_popI C dL_law_734 ?_
        refine b_aload_n C dL_law_735 2 rfl rfl ?_
        refine b_aload_n C dL_law_736 0 rfl rfl ?_
        refine b_iload_n C dL_law_737 3 rfl rfl ?_
        refine b_iconst C (v := 1) dL_law_738 (by decide) ?_
        refine b_iadd C dL_law_739 ?_
        refine b_sld C hX hbl hbA h270 dL_law_740 ?_
        obtain ⟨h276, hf⟩ := gd_s hf
        obtain ⟨u279, d277, k278, hf⟩ := cb_s hf
        refine b_cVI C [] dL_law_741 (kX12_restore l D cy B k278) lv_L_99 ⟨rfl, rfl, Nat.le_of_ble_eq_true rfl, Nat.le_of_ble_eq_true rfl⟩ h276 (by decide) rfl (Nat.le_of_ble_eq_true rfl) h272 rfl ?_
        refine b_popI C dL_law_744 ?_
        refine b_goto C (tgt := 771) dL_law_745 (by decide) ?_
        refine b_sub [(0, .ref b), (1, .ref (ad B y1)), (2, .ref (ad B y2)), (3, .int y3)] [0, 1, 2, 3] rfl ?_
        exact tL_law_771 C hX hbl hbA hr hlocks hz hB0 hK18 hn hs hf
      have hf := if_s c269 hf
      by_cases c280 : ((xs y3.toNatClampNeg) &&& 31) = 20
      · have hf := it_s c280 hf
        refine b_tabIn C (tgt := 748) (off := 715) dL_law_33 c280 (by decide) (by decide) (by decide) (by decide) ?_
        refine b_aload_n C dL_law_748 1 rfl rfl ?_
        refine b_aload_n C dL_law_749 0 rfl rfl ?_
        refine b_iload_n C dL_law_750 3 rfl rfl ?_
        refine b_iconst C (v := 1) dL_law_751 (by decide) ?_
        refine b_iadd C dL_law_752 ?_
        obtain ⟨h281, hf⟩ := gd_s hf
        refine b_sld C hX hbl hbA h281 dL_law_753 ?_
        obtain ⟨h282, hf⟩ := gd_s hf
        obtain ⟨h283, hf⟩ := gd_s hf
        obtain ⟨u286, d284, k285, hf⟩ := cb_s hf
        refine b_cVI C [] dL_law_754 (kX11_count l D cy B k285) lv_L_100 ⟨rfl, rfl, Nat.le_of_ble_eq_true rfl, Nat.le_of_ble_eq_true rfl⟩ h282 (by decide) rfl (Nat.le_of_ble_eq_true rfl) h283 rfl ?_
        refine b_popI C dL_law_757 ?_
        refine b_aload_n C dL_law_758 2 rfl rfl ?_
        refine b_aload_n C dL_law_759 0 rfl rfl ?_
        refine b_iload_n C dL_law_760 3 rfl rfl ?_
        refine b_iconst C (v := 1) dL_law_761 (by decide) ?_
        refine b_iadd C dL_law_762 ?_
        refine b_sld C hX hbl hbA h281 dL_law_763 ?_
        obtain ⟨h287, hf⟩ := gd_s hf
        obtain ⟨u290, d288, k289, hf⟩ := cb_s hf
        refine b_cVI C [] dL_law_764 (kX12_count l D cy B k289) lv_L_103 ⟨rfl, rfl, Nat.le_of_ble_eq_true rfl, Nat.le_of_ble_eq_true rfl⟩ h287 (by decide) rfl (Nat.le_of_ble_eq_true rfl) h283 rfl ?_
        refine b_popI C dL_law_767 ?_
        refine b_goto C (tgt := 771) dL_law_768 (by decide) ?_
        refine b_sub [(0, .ref b), (1, .ref (ad B y1)), (2, .ref (ad B y2)), (3, .int y3)] [0, 1, 2, 3] rfl ?_
        exact tL_law_771 C hX hbl hbA hr hlocks hz hB0 hK18 hn hs hf
      have hf := if_s c280 hf
      cases hf
def fL_law_L18 (N : Nat) (L : Nat) (xs : Nat → Int32)  (n0 s0 : Nat) : Nat × Nat × Int32 × Gs × Ds → Option (Unit × Ds) := lp (fun K18 a => fL_law_B18 N L xs n0 s0 K18 a.1 a.2.1 a.2.2.1 a.2.2.2.1 a.2.2.2.2) N
set_option maxHeartbeats 4000000 in
theorem tL_law_L18 {p : Program} {l : Launch} {e : Env} {s : State} {m : MethodId} {below : List Frame} {meth : Method} {c : Code} {D : va_G} {cy : Nat → ClassId} {B : Bs} {b L : Nat} {xs : Nat → Int32} {n0 s0 : Nat} (C : Cx p s m #[Value.ref b] c code 4 RL D cy B) (hX : va_X b L xs s s.heap) (hbl : b < s.heap.size) (hbA : ¬ wA B b) (hr : meth.sig.returnType = ret) (hlocks : meth.locks = false) (hz : s.heap.size = B.1 + n0) (hB0 : s.heap.size ≤ B.1) {N : Nat}  {dz : Ds} (a : Nat × Nat × Int32 × Gs × Ds) (hn : n0 ≤ gN a.2.2.2.1) (hs : s0 ≤ gS a.2.2.2.1) (hf : fL_law_L18 N L xs n0 s0 a = some ((), dz)) : WB p l e room_1 s m #[Value.ref b] below meth c 4 D cy B (gN a.2.2.2.1 - n0) (gS a.2.2.2.1 - s0) (lw_Z below #[Value.ref b] s) a.2.2.2.1 a.2.2.2.2 [(0, .ref b), (1, .ref (ad B a.1)), (2, .ref (ad B a.2.1)), (3, .int a.2.2.1)] 18 [] := by
  have key := lp_w (F := fun K18 a => fL_law_B18 N L xs n0 s0 K18 a.1 a.2.1 a.2.2.1 a.2.2.2.1 a.2.2.2.2) (y := ((), dz)) (G := fun a => n0 ≤ gN a.2.2.2.1 → s0 ≤ gS a.2.2.2.1 → WB p l e room_1 s m #[Value.ref b] below meth c 4 D cy B (gN a.2.2.2.1 - n0) (gS a.2.2.2.1 - s0) (lw_Z below #[Value.ref b] s) a.2.2.2.1 a.2.2.2.2 [(0, .ref b), (1, .ref (ad B a.1)), (2, .ref (ad B a.2.1)), (3, .int a.2.2.1)] 18 []) (fun K18 hK18 a ha hn hs => tL_law_18 (N := N) (K18 := K18) (y1 := a.1) (y2 := a.2.1) (y3 := a.2.2.1) (g := a.2.2.2.1) (d := a.2.2.2.2) C hX hbl hbA hr hlocks hz hB0 hK18 hn hs ha) N
  exact key a hf hn hs
set_option maxRecDepth 100000 in
def fL_law_E (N : Nat) (L : Nat) (xs : Nat → Int32) (n0 s0 : Nat) (g : Gs) (d : Ds) : Option (Unit × Ds) := gd (gN g < 100000) <| gd (gN g + 1 - n0 ≤ 600000 ∧ gS g + 10 - s0 ≤ 7302250) <| bd (nG g 10 0 10) fun g3 => (bd (nD g d) fun d4 => (bd (gN g) fun r5 => (gd (0 < gN g3) <| cb (fX11_init N r5 g3 d4) fun g8 d9 => (gd (gN g8 = gN g3 + 327 ∧ gS g8 = gS g3 + 23557) <| gd (gN g8 - n0 ≤ 600000 ∧ gS g8 - s0 ≤ 7302250) <| gd (gN g8 < 100000) <| gd (gN g8 + 1 - n0 ≤ 600000 ∧ gS g8 + 33 - s0 ≤ 7302250) <| bd (nG g8 11 0 33) fun g16 => (bd (nD g8 d9) fun d17 => (bd (gN g8) fun r18 => (gd (0 < gN g16) <| cb (fX12_init N r18 g16 d17) fun g21 d22 => (gd (gN g21 = gN g16 + 18 ∧ gS g21 = gS g16 + 52035) <| gd (gN g21 - n0 ≤ 600000 ∧ gS g21 - s0 ≤ 7302250) <| fL_law_L18 N L xs n0 s0 (r5, r18, 0, g21, d22)))))))))
set_option maxHeartbeats 4000000 in
set_option maxRecDepth 100000 in
theorem tL_law_E {p : Program} {l : Launch} {e : Env} {s : State} {m : MethodId} {below : List Frame} {meth : Method} {c : Code} {D : va_G} {cy : Nat → ClassId} {B : Bs} {b L : Nat} {xs : Nat → Int32} {n0 s0 : Nat} (C : Cx p s m #[Value.ref b] c code 4 RL D cy B) (hX : va_X b L xs s s.heap) (hbl : b < s.heap.size) (hbA : ¬ wA B b) (hr : meth.sig.returnType = ret) (hlocks : meth.locks = false) (hz : s.heap.size = B.1 + n0) (hB0 : s.heap.size ≤ B.1) {N : Nat}  {dz : Ds} {g : Gs} {d : Ds} (hn : n0 ≤ gN g) (hs : s0 ≤ gS g) (hf : fL_law_E N L xs n0 s0 g d = some ((), dz)) : WB p l e room_1 s m #[Value.ref b] below meth c 4 D cy B (gN g - n0) (gS g - s0) (lw_Z below #[Value.ref b] s) g d [(0, .ref b)] 0 [] := by
  unfold fL_law_E at hf
  obtain ⟨h1, hf⟩ := gd_s hf
  obtain ⟨h2, hf⟩ := gd_s hf
  obtain ⟨g3, eg3, hf⟩ := bd_s hf
  obtain ⟨d4, ed4, hf⟩ := bd_s hf
  obtain ⟨r5, er5, hf⟩ := bd_s hf
  refine b_new C dL_law_0 nw_L_7 hz hn hs h1 h2 eg3 ed4 (fun hn6 hn6s => ?_)
  refine b_topR er5 ?_
  refine b_dup C dL_law_3 rfl ?_
  obtain ⟨h7, hf⟩ := gd_s hf
  obtain ⟨g8, d9, k10, hf⟩ := cb_s hf
  obtain ⟨h12, hf⟩ := gd_s hf
  obtain ⟨h13, hf⟩ := gd_s hf
  refine b_callC C [.ref (ad B r5)] dL_law_4 (kX11_init l D cy B k10) lv_L_9 ⟨rfl, rfl, Nat.le_of_ble_eq_true rfl, Nat.le_of_ble_eq_true rfl⟩ rfl (Nat.le_of_ble_eq_true rfl) hz hn6 hn6s h7 h12 h13 rfl (fun hn11 hn11s => ?_)
  refine b_astore_n C dL_law_7 rfl [(1, .ref (ad B r5)), (0, .ref b)] (by decide) rfl ?_
  obtain ⟨h14, hf⟩ := gd_s hf
  obtain ⟨h15, hf⟩ := gd_s hf
  obtain ⟨g16, eg16, hf⟩ := bd_s hf
  obtain ⟨d17, ed17, hf⟩ := bd_s hf
  obtain ⟨r18, er18, hf⟩ := bd_s hf
  refine b_new C dL_law_8 nw_L_10 hz hn11 hn11s h14 h15 eg16 ed17 (fun hn19 hn19s => ?_)
  refine b_topR er18 ?_
  refine b_dup C dL_law_11 rfl ?_
  obtain ⟨h20, hf⟩ := gd_s hf
  obtain ⟨g21, d22, k23, hf⟩ := cb_s hf
  obtain ⟨h25, hf⟩ := gd_s hf
  obtain ⟨h26, hf⟩ := gd_s hf
  refine b_callC C [.ref (ad B r18)] dL_law_12 (kX12_init l D cy B k23) lv_L_12 ⟨rfl, rfl, Nat.le_of_ble_eq_true rfl, Nat.le_of_ble_eq_true rfl⟩ rfl (Nat.le_of_ble_eq_true rfl) hz hn19 hn19s h20 h25 h26 rfl (fun hn24 hn24s => ?_)
  refine b_astore_n C dL_law_15 rfl [(2, .ref (ad B r18)), (1, .ref (ad B r5)), (0, .ref b)] (by decide) rfl ?_
  refine b_iconst C (v := 0) dL_law_16 (by decide) ?_
  refine b_istore_n C dL_law_17 rfl [(3, .int 0), (2, .ref (ad B r18)), (1, .ref (ad B r5)), (0, .ref b)] (by decide) rfl ?_
  refine b_sub [(0, .ref b), (1, .ref (ad B r5)), (2, .ref (ad B r18)), (3, .int 0)] [3, 2, 1, 0] rfl ?_
  exact tL_law_L18 C hX hbl hbA hr hlocks hz hB0 (r5, r18, 0, g21, d22) hn24 hn24s hf

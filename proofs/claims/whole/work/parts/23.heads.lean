abbrev rm_J7_fill_53178 : Room := { frames := 0, cells := 0, slots := 0, locals := 0 }
theorem hdJ7_fill_53178 : yJ7_fill_53178.cls ≠ "java/lang/invoke/MethodHandle" ∧ yJ7_fill_53178.cls ≠ "java/lang/invoke/VarHandle" ∧ (parseMethodDescriptor yJ7_fill_53178.desc).map (fun d => d.parameters.length) = some 2 := by decide +kernel
abbrev rm_X4_resize : Room := { frames := 1, cells := 0, slots := 0, locals := 23 }
theorem hdX4_resize : yX4_resize.cls = RX4 ∧ yX4_resize.cls ≠ "java/lang/invoke/MethodHandle" ∧ yX4_resize.cls ≠ "java/lang/invoke/VarHandle" ∧ (parseMethodDescriptor yX4_resize.desc).map (fun d => d.parameters.length) = some 2 := by decide +kernel
abbrev rm_X6_size : Room := { frames := 2, cells := 0, slots := 0, locals := 45 }
theorem hdX6_size : yX6_size.cls = RX6 ∧ yX6_size.cls ≠ "java/lang/invoke/MethodHandle" ∧ yX6_size.cls ≠ "java/lang/invoke/VarHandle" ∧ (parseMethodDescriptor yX6_size.desc).map (fun d => d.parameters.length) = some 2 := by decide +kernel
abbrev rm_X4_isRoom : Room := { frames := 0, cells := 0, slots := 0, locals := 0 }
theorem hdX4_isRoom : yX4_isRoom.cls ≠ "java/lang/invoke/MethodHandle" ∧ yX4_isRoom.cls ≠ "java/lang/invoke/VarHandle" ∧ (parseMethodDescriptor yX4_isRoom.desc).map (fun d => d.parameters.length) = some 2 := by decide +kernel
abbrev rm_X4_entry : Room := { frames := 1, cells := 0, slots := 0, locals := 21 }
theorem hdX4_entry : yX4_entry.cls = RX4 ∧ yX4_entry.cls ≠ "java/lang/invoke/MethodHandle" ∧ yX4_entry.cls ≠ "java/lang/invoke/VarHandle" ∧ (parseMethodDescriptor yX4_entry.desc).map (fun d => d.parameters.length) = some 3 := by decide +kernel
abbrev rm_X4_columns : Room := { frames := 0, cells := 0, slots := 0, locals := 0 }
theorem hdX4_columns : yX4_columns.cls = RX4 ∧ yX4_columns.cls ≠ "java/lang/invoke/MethodHandle" ∧ yX4_columns.cls ≠ "java/lang/invoke/VarHandle" ∧ (parseMethodDescriptor yX4_columns.desc).map (fun d => d.parameters.length) = some 1 := by decide +kernel
abbrev rm_X4_rows : Room := { frames := 0, cells := 0, slots := 0, locals := 0 }
theorem hdX4_rows : yX4_rows.cls = RX4 ∧ yX4_rows.cls ≠ "java/lang/invoke/MethodHandle" ∧ yX4_rows.cls ≠ "java/lang/invoke/VarHandle" ∧ (parseMethodDescriptor yX4_rows.desc).map (fun d => d.parameters.length) = some 1 := by decide +kernel
abbrev rm_X4_hasEntry : Room := { frames := 1, cells := 0, slots := 0, locals := 21 }
theorem hdX4_hasEntry : yX4_hasEntry.cls = RX4 ∧ yX4_hasEntry.cls ≠ "java/lang/invoke/MethodHandle" ∧ yX4_hasEntry.cls ≠ "java/lang/invoke/VarHandle" ∧ (parseMethodDescriptor yX4_hasEntry.desc).map (fun d => d.parameters.length) = some 3 := by decide +kernel
abbrev rm_X4_store : Room := { frames := 1, cells := 0, slots := 0, locals := 21 }
theorem hdX4_store : yX4_store.cls = RX4 ∧ yX4_store.cls ≠ "java/lang/invoke/MethodHandle" ∧ yX4_store.cls ≠ "java/lang/invoke/VarHandle" ∧ (parseMethodDescriptor yX4_store.desc).map (fun d => d.parameters.length) = some 4 := by decide +kernel
abbrev rm_X6_reach : Room := { frames := 0, cells := 0, slots := 0, locals := 0 }
theorem hdX6_reach : yX6_reach.cls ≠ "java/lang/invoke/MethodHandle" ∧ yX6_reach.cls ≠ "java/lang/invoke/VarHandle" ∧ (parseMethodDescriptor yX6_reach.desc).map (fun d => d.parameters.length) = some 1 := by decide +kernel
abbrev rm_X6_set : Room := { frames := 2, cells := 0, slots := 0, locals := 46 }
theorem hdX6_set : yX6_set.cls = RX6 ∧ yX6_set.cls ≠ "java/lang/invoke/MethodHandle" ∧ yX6_set.cls ≠ "java/lang/invoke/VarHandle" ∧ (parseMethodDescriptor yX6_set.desc).map (fun d => d.parameters.length) = some 4 := by decide +kernel
abbrev rm_X6_at : Room := { frames := 2, cells := 0, slots := 0, locals := 45 }
theorem hdX6_at : yX6_at.cls = RX6 ∧ yX6_at.cls ≠ "java/lang/invoke/MethodHandle" ∧ yX6_at.cls ≠ "java/lang/invoke/VarHandle" ∧ (parseMethodDescriptor yX6_at.desc).map (fun d => d.parameters.length) = some 3 := by decide +kernel
abbrev rm_X4_largestMinor : Room := { frames := 2, cells := 0, slots := 0, locals := 45 }
theorem hdX4_largestMinor : yX4_largestMinor.cls = RX4 ∧ yX4_largestMinor.cls ≠ "java/lang/invoke/MethodHandle" ∧ yX4_largestMinor.cls ≠ "java/lang/invoke/VarHandle" ∧ (parseMethodDescriptor yX4_largestMinor.desc).map (fun d => d.parameters.length) = some 1 := by decide +kernel
abbrev rm_X4_minor : Room := { frames := 2, cells := 0, slots := 0, locals := 45 }
theorem hdX4_minor : yX4_minor.cls = RX4 ∧ yX4_minor.cls ≠ "java/lang/invoke/MethodHandle" ∧ yX4_minor.cls ≠ "java/lang/invoke/VarHandle" ∧ (parseMethodDescriptor yX4_minor.desc).map (fun d => d.parameters.length) = some 3 := by decide +kernel
abbrev rm_X4_minors : Room := { frames := 3, cells := 0, slots := 0, locals := 71 }
theorem hdX4_minors : yX4_minors.cls = RX4 ∧ yX4_minors.cls ≠ "java/lang/invoke/MethodHandle" ∧ yX4_minors.cls ≠ "java/lang/invoke/VarHandle" ∧ (parseMethodDescriptor yX4_minors.desc).map (fun d => d.parameters.length) = some 2 := by decide +kernel
abbrev rm_X6_far : Room := { frames := 0, cells := 0, slots := 0, locals := 0 }
theorem hdX6_far : yX6_far.cls ≠ "java/lang/invoke/MethodHandle" ∧ yX6_far.cls ≠ "java/lang/invoke/VarHandle" ∧ (parseMethodDescriptor yX6_far.desc).map (fun d => d.parameters.length) = some 1 := by decide +kernel
abbrev rm_X6_det : Room := { frames := 4, cells := 0, slots := 0, locals := 93 }
theorem hdX6_det : yX6_det.cls = RX6 ∧ yX6_det.cls ≠ "java/lang/invoke/MethodHandle" ∧ yX6_det.cls ≠ "java/lang/invoke/VarHandle" ∧ (parseMethodDescriptor yX6_det.desc).map (fun d => d.parameters.length) = some 1 := by decide +kernel
abbrev rm_X6_diagonal : Room := { frames := 4, cells := 0, slots := 0, locals := 93 }
theorem hdX6_diagonal : yX6_diagonal.cls = RX6 ∧ yX6_diagonal.cls ≠ "java/lang/invoke/MethodHandle" ∧ yX6_diagonal.cls ≠ "java/lang/invoke/VarHandle" ∧ (parseMethodDescriptor yX6_diagonal.desc).map (fun d => d.parameters.length) = some 1 := by decide +kernel
abbrev rm_X6_character : Room := { frames := 4, cells := 0, slots := 0, locals := 93 }
theorem hdX6_character : yX6_character.cls = RX6 ∧ yX6_character.cls ≠ "java/lang/invoke/MethodHandle" ∧ yX6_character.cls ≠ "java/lang/invoke/VarHandle" ∧ (parseMethodDescriptor yX6_character.desc).map (fun d => d.parameters.length) = some 2 := by decide +kernel
abbrev rm_X5_take : Room := { frames := 0, cells := 0, slots := 0, locals := 0 }
theorem hdX5_take : yX5_take.cls = RX5 ∧ yX5_take.cls ≠ "java/lang/invoke/MethodHandle" ∧ yX5_take.cls ≠ "java/lang/invoke/VarHandle" ∧ (parseMethodDescriptor yX5_take.desc).map (fun d => d.parameters.length) = some 1 := by decide +kernel
abbrev rm_X6_feed : Room := { frames := 1, cells := 0, slots := 0, locals := 21 }
theorem hdX6_feed : yX6_feed.cls = RX6 ∧ yX6_feed.cls ≠ "java/lang/invoke/MethodHandle" ∧ yX6_feed.cls ≠ "java/lang/invoke/VarHandle" ∧ (parseMethodDescriptor yX6_feed.desc).map (fun d => d.parameters.length) = some 2 := by decide +kernel
abbrev rm_X4_copyFrom : Room := { frames := 1, cells := 0, slots := 0, locals := 60 }
theorem hdX4_copyFrom : yX4_copyFrom.cls = RX4 ∧ yX4_copyFrom.cls ≠ "java/lang/invoke/MethodHandle" ∧ yX4_copyFrom.cls ≠ "java/lang/invoke/VarHandle" ∧ (parseMethodDescriptor yX4_copyFrom.desc).map (fun d => d.parameters.length) = some 1 := by decide +kernel
abbrev rm_X5_here : Room := { frames := 0, cells := 0, slots := 0, locals := 0 }
theorem hdX5_here : yX5_here.cls = RX5 ∧ yX5_here.cls ≠ "java/lang/invoke/MethodHandle" ∧ yX5_here.cls ≠ "java/lang/invoke/VarHandle" ∧ (parseMethodDescriptor yX5_here.desc).map (fun d => d.parameters.length) = some 1 := by decide +kernel
abbrev rm_X5_stretch : Room := { frames := 1, cells := 0, slots := 0, locals := 22 }
theorem hdX5_stretch : yX5_stretch.cls = RX5 ∧ yX5_stretch.cls ≠ "java/lang/invoke/MethodHandle" ∧ yX5_stretch.cls ≠ "java/lang/invoke/VarHandle" ∧ (parseMethodDescriptor yX5_stretch.desc).map (fun d => d.parameters.length) = some 2 := by decide +kernel
abbrev rm_X5_readName : Room := { frames := 2, cells := 0, slots := 0, locals := 45 }
theorem hdX5_readName : yX5_readName.cls = RX5 ∧ yX5_readName.cls ≠ "java/lang/invoke/MethodHandle" ∧ yX5_readName.cls ≠ "java/lang/invoke/VarHandle" ∧ (parseMethodDescriptor yX5_readName.desc).map (fun d => d.parameters.length) = some 0 := by decide +kernel
abbrev rm_X5_skipBlanks : Room := { frames := 1, cells := 0, slots := 0, locals := 22 }
theorem hdX5_skipBlanks : yX5_skipBlanks.cls = RX5 ∧ yX5_skipBlanks.cls ≠ "java/lang/invoke/MethodHandle" ∧ yX5_skipBlanks.cls ≠ "java/lang/invoke/VarHandle" ∧ (parseMethodDescriptor yX5_skipBlanks.desc).map (fun d => d.parameters.length) = some 0 := by decide +kernel
abbrev rm_X5_readMark : Room := { frames := 2, cells := 0, slots := 0, locals := 43 }
theorem hdX5_readMark : yX5_readMark.cls = RX5 ∧ yX5_readMark.cls ≠ "java/lang/invoke/MethodHandle" ∧ yX5_readMark.cls ≠ "java/lang/invoke/VarHandle" ∧ (parseMethodDescriptor yX5_readMark.desc).map (fun d => d.parameters.length) = some 1 := by decide +kernel
abbrev rm_X5_readEntry : Room := { frames := 3, cells := 0, slots := 0, locals := 64 }
theorem hdX5_readEntry : yX5_readEntry.cls = RX5 ∧ yX5_readEntry.cls ≠ "java/lang/invoke/MethodHandle" ∧ yX5_readEntry.cls ≠ "java/lang/invoke/VarHandle" ∧ (parseMethodDescriptor yX5_readEntry.desc).map (fun d => d.parameters.length) = some 4 := by decide +kernel
abbrev rm_X5_readTable : Room := { frames := 4, cells := 0, slots := 0, locals := 91 }
theorem hdX5_readTable : yX5_readTable.cls = RX5 ∧ yX5_readTable.cls ≠ "java/lang/invoke/MethodHandle" ∧ yX5_readTable.cls ≠ "java/lang/invoke/VarHandle" ∧ (parseMethodDescriptor yX5_readTable.desc).map (fun d => d.parameters.length) = some 2 := by decide +kernel
abbrev rm_X5_tell : Room := { frames := 5, cells := 0, slots := 0, locals := 116 }
theorem hdX5_tell : yX5_tell.cls = RX5 ∧ yX5_tell.cls ≠ "java/lang/invoke/MethodHandle" ∧ yX5_tell.cls ≠ "java/lang/invoke/VarHandle" ∧ (parseMethodDescriptor yX5_tell.desc).map (fun d => d.parameters.length) = some 1 := by decide +kernel
abbrev rm_X6_text : Room := { frames := 6, cells := 0, slots := 0, locals := 140 }
theorem hdX6_text : yX6_text.cls = RX6 ∧ yX6_text.cls ≠ "java/lang/invoke/MethodHandle" ∧ yX6_text.cls ≠ "java/lang/invoke/VarHandle" ∧ (parseMethodDescriptor yX6_text.desc).map (fun d => d.parameters.length) = some 0 := by decide +kernel
abbrev rm_X4_hasEquation : Room := { frames := 0, cells := 0, slots := 0, locals := 0 }
theorem hdX4_hasEquation : yX4_hasEquation.cls = RX4 ∧ yX4_hasEquation.cls ≠ "java/lang/invoke/MethodHandle" ∧ yX4_hasEquation.cls ≠ "java/lang/invoke/VarHandle" ∧ (parseMethodDescriptor yX4_hasEquation.desc).map (fun d => d.parameters.length) = some 1 := by decide +kernel
abbrev rm_X4_become : Room := { frames := 1, cells := 0, slots := 0, locals := 21 }
theorem hdX4_become : yX4_become.cls = RX4 ∧ yX4_become.cls ≠ "java/lang/invoke/MethodHandle" ∧ yX4_become.cls ≠ "java/lang/invoke/VarHandle" ∧ (parseMethodDescriptor yX4_become.desc).map (fun d => d.parameters.length) = some 3 := by decide +kernel
abbrev rm_X6_isKind : Room := { frames := 0, cells := 0, slots := 0, locals := 0 }
theorem hdX6_isKind : yX6_isKind.cls ≠ "java/lang/invoke/MethodHandle" ∧ yX6_isKind.cls ≠ "java/lang/invoke/VarHandle" ∧ (parseMethodDescriptor yX6_isKind.desc).map (fun d => d.parameters.length) = some 1 := by decide +kernel
abbrev rm_X6_isShift : Room := { frames := 0, cells := 0, slots := 0, locals := 0 }
theorem hdX6_isShift : yX6_isShift.cls ≠ "java/lang/invoke/MethodHandle" ∧ yX6_isShift.cls ≠ "java/lang/invoke/VarHandle" ∧ (parseMethodDescriptor yX6_isShift.desc).map (fun d => d.parameters.length) = some 1 := by decide +kernel
abbrev rm_X6_equation : Room := { frames := 2, cells := 0, slots := 0, locals := 44 }
theorem hdX6_equation : yX6_equation.cls = RX6 ∧ yX6_equation.cls ≠ "java/lang/invoke/MethodHandle" ∧ yX6_equation.cls ≠ "java/lang/invoke/VarHandle" ∧ (parseMethodDescriptor yX6_equation.desc).map (fun d => d.parameters.length) = some 2 := by decide +kernel
abbrev rm_X1_isFree : Room := { frames := 0, cells := 0, slots := 0, locals := 0 }
theorem hdX1_isFree : yX1_isFree.cls = RX1 ∧ yX1_isFree.cls ≠ "java/lang/invoke/MethodHandle" ∧ yX1_isFree.cls ≠ "java/lang/invoke/VarHandle" ∧ (parseMethodDescriptor yX1_isFree.desc).map (fun d => d.parameters.length) = some 1 := by decide +kernel
abbrev rm_X1_freeSet : Room := { frames := 1, cells := 0, slots := 0, locals := 21 }
theorem hdX1_freeSet : yX1_freeSet.cls = RX1 ∧ yX1_freeSet.cls ≠ "java/lang/invoke/MethodHandle" ∧ yX1_freeSet.cls ≠ "java/lang/invoke/VarHandle" ∧ (parseMethodDescriptor yX1_freeSet.desc).map (fun d => d.parameters.length) = some 0 := by decide +kernel
abbrev rm_X1_hasCell : Room := { frames := 0, cells := 0, slots := 0, locals := 0 }
theorem hdX1_hasCell : yX1_hasCell.cls = RX1 ∧ yX1_hasCell.cls ≠ "java/lang/invoke/MethodHandle" ∧ yX1_hasCell.cls ≠ "java/lang/invoke/VarHandle" ∧ (parseMethodDescriptor yX1_hasCell.desc).map (fun d => d.parameters.length) = some 2 := by decide +kernel
abbrev rm_X1_cell : Room := { frames := 1, cells := 0, slots := 0, locals := 22 }
theorem hdX1_cell : yX1_cell.cls = RX1 ∧ yX1_cell.cls ≠ "java/lang/invoke/MethodHandle" ∧ yX1_cell.cls ≠ "java/lang/invoke/VarHandle" ∧ (parseMethodDescriptor yX1_cell.desc).map (fun d => d.parameters.length) = some 2 := by decide +kernel
abbrev rm_X1_isSolvable : Room := { frames := 2, cells := 0, slots := 0, locals := 44 }
theorem hdX1_isSolvable : yX1_isSolvable.cls = RX1 ∧ yX1_isSolvable.cls ≠ "java/lang/invoke/MethodHandle" ∧ yX1_isSolvable.cls ≠ "java/lang/invoke/VarHandle" ∧ (parseMethodDescriptor yX1_isSolvable.desc).map (fun d => d.parameters.length) = some 0 := by decide +kernel
abbrev rm_X4_hasRight : Room := { frames := 0, cells := 0, slots := 0, locals := 0 }
theorem hdX4_hasRight : yX4_hasRight.cls = RX4 ∧ yX4_hasRight.cls ≠ "java/lang/invoke/MethodHandle" ∧ yX4_hasRight.cls ≠ "java/lang/invoke/VarHandle" ∧ (parseMethodDescriptor yX4_hasRight.desc).map (fun d => d.parameters.length) = some 1 := by decide +kernel
abbrev rm_X4_unknowns : Room := { frames := 0, cells := 0, slots := 0, locals := 0 }
theorem hdX4_unknowns : yX4_unknowns.cls = RX4 ∧ yX4_unknowns.cls ≠ "java/lang/invoke/MethodHandle" ∧ yX4_unknowns.cls ≠ "java/lang/invoke/VarHandle" ∧ (parseMethodDescriptor yX4_unknowns.desc).map (fun d => d.parameters.length) = some 1 := by decide +kernel
abbrev rm_X4_fits : Room := { frames := 1, cells := 0, slots := 0, locals := 21 }
theorem hdX4_fits : yX4_fits.cls = RX4 ∧ yX4_fits.cls ≠ "java/lang/invoke/MethodHandle" ∧ yX4_fits.cls ≠ "java/lang/invoke/VarHandle" ∧ (parseMethodDescriptor yX4_fits.desc).map (fun d => d.parameters.length) = some 1 := by decide +kernel
abbrev rm_X4_kindOf : Room := { frames := 1, cells := 0, slots := 0, locals := 21 }
theorem hdX4_kindOf : yX4_kindOf.cls = RX4 ∧ yX4_kindOf.cls ≠ "java/lang/invoke/MethodHandle" ∧ yX4_kindOf.cls ≠ "java/lang/invoke/VarHandle" ∧ (parseMethodDescriptor yX4_kindOf.desc).map (fun d => d.parameters.length) = some 1 := by decide +kernel
abbrev rm_X4_shiftOf : Room := { frames := 1, cells := 0, slots := 0, locals := 21 }
theorem hdX4_shiftOf : yX4_shiftOf.cls = RX4 ∧ yX4_shiftOf.cls ≠ "java/lang/invoke/MethodHandle" ∧ yX4_shiftOf.cls ≠ "java/lang/invoke/VarHandle" ∧ (parseMethodDescriptor yX4_shiftOf.desc).map (fun d => d.parameters.length) = some 1 := by decide +kernel
abbrev rm_X6_oneIf : Room := { frames := 0, cells := 0, slots := 0, locals := 0 }
theorem hdX6_oneIf : yX6_oneIf.cls ≠ "java/lang/invoke/MethodHandle" ∧ yX6_oneIf.cls ≠ "java/lang/invoke/VarHandle" ∧ (parseMethodDescriptor yX6_oneIf.desc).map (fun d => d.parameters.length) = some 1 := by decide +kernel
abbrev rm_X1_firstFilled : Room := { frames := 2, cells := 0, slots := 0, locals := 44 }
theorem hdX1_firstFilled : yX1_firstFilled.cls = RX1 ∧ yX1_firstFilled.cls ≠ "java/lang/invoke/MethodHandle" ∧ yX1_firstFilled.cls ≠ "java/lang/invoke/VarHandle" ∧ (parseMethodDescriptor yX1_firstFilled.desc).map (fun d => d.parameters.length) = some 1 := by decide +kernel
abbrev rm_X1_write : Room := { frames := 1, cells := 0, slots := 0, locals := 22 }
theorem hdX1_write : yX1_write.cls = RX1 ∧ yX1_write.cls ≠ "java/lang/invoke/MethodHandle" ∧ yX1_write.cls ≠ "java/lang/invoke/VarHandle" ∧ (parseMethodDescriptor yX1_write.desc).map (fun d => d.parameters.length) = some 3 := by decide +kernel
abbrev rm_X1_swapRows : Room := { frames := 2, cells := 0, slots := 0, locals := 46 }
theorem hdX1_swapRows : yX1_swapRows.cls = RX1 ∧ yX1_swapRows.cls ≠ "java/lang/invoke/MethodHandle" ∧ yX1_swapRows.cls ≠ "java/lang/invoke/VarHandle" ∧ (parseMethodDescriptor yX1_swapRows.desc).map (fun d => d.parameters.length) = some 2 := by decide +kernel
abbrev rm_X1_sweep : Room := { frames := 2, cells := 0, slots := 0, locals := 46 }
theorem hdX1_sweep : yX1_sweep.cls = RX1 ∧ yX1_sweep.cls ≠ "java/lang/invoke/MethodHandle" ∧ yX1_sweep.cls ≠ "java/lang/invoke/VarHandle" ∧ (parseMethodDescriptor yX1_sweep.desc).map (fun d => d.parameters.length) = some 2 := by decide +kernel
abbrev rm_X1_eliminate : Room := { frames := 3, cells := 0, slots := 0, locals := 76 }
theorem hdX1_eliminate : yX1_eliminate.cls = RX1 ∧ yX1_eliminate.cls ≠ "java/lang/invoke/MethodHandle" ∧ yX1_eliminate.cls ≠ "java/lang/invoke/VarHandle" ∧ (parseMethodDescriptor yX1_eliminate.desc).map (fun d => d.parameters.length) = some 0 := by decide +kernel
abbrev rm_X1_add : Room := { frames := 2, cells := 0, slots := 0, locals := 46 }
theorem hdX1_add : yX1_add.cls = RX1 ∧ yX1_add.cls ≠ "java/lang/invoke/MethodHandle" ∧ yX1_add.cls ≠ "java/lang/invoke/VarHandle" ∧ (parseMethodDescriptor yX1_add.desc).map (fun d => d.parameters.length) = some 3 := by decide +kernel
abbrev rm_J7_fill_d0a16 : Room := { frames := 0, cells := 0, slots := 0, locals := 0 }
theorem hdJ7_fill_d0a16 : yJ7_fill_d0a16.cls ≠ "java/lang/invoke/MethodHandle" ∧ yJ7_fill_d0a16.cls ≠ "java/lang/invoke/VarHandle" ∧ (parseMethodDescriptor yJ7_fill_d0a16.desc).map (fun d => d.parameters.length) = some 2 := by decide +kernel
abbrev rm_X1_clear : Room := { frames := 1, cells := 0, slots := 0, locals := 24 }
theorem hdX1_clear : yX1_clear.cls = RX1 ∧ yX1_clear.cls ≠ "java/lang/invoke/MethodHandle" ∧ yX1_clear.cls ≠ "java/lang/invoke/VarHandle" ∧ (parseMethodDescriptor yX1_clear.desc).map (fun d => d.parameters.length) = some 2 := by decide +kernel
abbrev rm_X4_leftEntry : Room := { frames := 2, cells := 0, slots := 0, locals := 45 }
theorem hdX4_leftEntry : yX4_leftEntry.cls = RX4 ∧ yX4_leftEntry.cls ≠ "java/lang/invoke/MethodHandle" ∧ yX4_leftEntry.cls ≠ "java/lang/invoke/VarHandle" ∧ (parseMethodDescriptor yX4_leftEntry.desc).map (fun d => d.parameters.length) = some 3 := by decide +kernel
abbrev rm_X4_rightEntry : Room := { frames := 2, cells := 0, slots := 0, locals := 45 }
theorem hdX4_rightEntry : yX4_rightEntry.cls = RX4 ∧ yX4_rightEntry.cls ≠ "java/lang/invoke/MethodHandle" ∧ yX4_rightEntry.cls ≠ "java/lang/invoke/VarHandle" ∧ (parseMethodDescriptor yX4_rightEntry.desc).map (fun d => d.parameters.length) = some 3 := by decide +kernel
abbrev rm_X4_signAt : Room := { frames := 0, cells := 0, slots := 0, locals := 0 }
theorem hdX4_signAt : yX4_signAt.cls = RX4 ∧ yX4_signAt.cls ≠ "java/lang/invoke/MethodHandle" ∧ yX4_signAt.cls ≠ "java/lang/invoke/VarHandle" ∧ (parseMethodDescriptor yX4_signAt.desc).map (fun d => d.parameters.length) = some 3 := by decide +kernel
abbrev rm_X4_unknownAt : Room := { frames := 1, cells := 0, slots := 0, locals := 21 }
theorem hdX4_unknownAt : yX4_unknownAt.cls = RX4 ∧ yX4_unknownAt.cls ≠ "java/lang/invoke/MethodHandle" ∧ yX4_unknownAt.cls ≠ "java/lang/invoke/VarHandle" ∧ (parseMethodDescriptor yX4_unknownAt.desc).map (fun d => d.parameters.length) = some 3 := by decide +kernel
abbrev rm_X6_fillRow : Room := { frames := 3, cells := 0, slots := 0, locals := 70 }
theorem hdX6_fillRow : yX6_fillRow.cls = RX6 ∧ yX6_fillRow.cls ≠ "java/lang/invoke/MethodHandle" ∧ yX6_fillRow.cls ≠ "java/lang/invoke/VarHandle" ∧ (parseMethodDescriptor yX6_fillRow.desc).map (fun d => d.parameters.length) = some 6 := by decide +kernel
abbrev rm_X6_fillGrid : Room := { frames := 4, cells := 0, slots := 0, locals := 102 }
theorem hdX6_fillGrid : yX6_fillGrid.cls = RX6 ∧ yX6_fillGrid.cls ≠ "java/lang/invoke/MethodHandle" ∧ yX6_fillGrid.cls ≠ "java/lang/invoke/VarHandle" ∧ (parseMethodDescriptor yX6_fillGrid.desc).map (fun d => d.parameters.length) = some 4 := by decide +kernel
abbrev rm_X6_solve : Room := { frames := 5, cells := 0, slots := 0, locals := 130 }
theorem hdX6_solve : yX6_solve.cls = RX6 ∧ yX6_solve.cls ≠ "java/lang/invoke/MethodHandle" ∧ yX6_solve.cls ≠ "java/lang/invoke/VarHandle" ∧ (parseMethodDescriptor yX6_solve.desc).map (fun d => d.parameters.length) = some 1 := by decide +kernel
abbrev rm_X6_of : Room := { frames := 6, cells := 0, slots := 0, locals := 152 }
theorem hdX6_of : yX6_of.cls = RX6 ∧ yX6_of.cls ≠ "java/lang/invoke/MethodHandle" ∧ yX6_of.cls ≠ "java/lang/invoke/VarHandle" ∧ (parseMethodDescriptor yX6_of.desc).map (fun d => d.parameters.length) = some 2 := by decide +kernel
abbrev rm_X6_change : Room := { frames := 2, cells := 0, slots := 0, locals := 44 }
theorem hdX6_change : yX6_change.cls = RX6 ∧ yX6_change.cls ≠ "java/lang/invoke/MethodHandle" ∧ yX6_change.cls ≠ "java/lang/invoke/VarHandle" ∧ (parseMethodDescriptor yX6_change.desc).map (fun d => d.parameters.length) = some 3 := by decide +kernel
abbrev rm_X6_right : Room := { frames := 3, cells := 0, slots := 0, locals := 68 }
theorem hdX6_right : yX6_right.cls = RX6 ∧ yX6_right.cls ≠ "java/lang/invoke/MethodHandle" ∧ yX6_right.cls ≠ "java/lang/invoke/VarHandle" ∧ (parseMethodDescriptor yX6_right.desc).map (fun d => d.parameters.length) = some 3 := by decide +kernel
abbrev rm_X6_commonDivisor : Room := { frames := 0, cells := 0, slots := 0, locals := 0 }
theorem hdX6_commonDivisor : yX6_commonDivisor.cls ≠ "java/lang/invoke/MethodHandle" ∧ yX6_commonDivisor.cls ≠ "java/lang/invoke/VarHandle" ∧ (parseMethodDescriptor yX6_commonDivisor.desc).map (fun d => d.parameters.length) = some 2 := by decide +kernel
abbrev rm_X6_fractionPart : Room := { frames := 1, cells := 0, slots := 0, locals := 30 }
theorem hdX6_fractionPart : yX6_fractionPart.cls ≠ "java/lang/invoke/MethodHandle" ∧ yX6_fractionPart.cls ≠ "java/lang/invoke/VarHandle" ∧ (parseMethodDescriptor yX6_fractionPart.desc).map (fun d => d.parameters.length) = some 3 := by decide +kernel
abbrev rm_X6_isPart : Room := { frames := 0, cells := 0, slots := 0, locals := 0 }
theorem hdX6_isPart : yX6_isPart.cls ≠ "java/lang/invoke/MethodHandle" ∧ yX6_isPart.cls ≠ "java/lang/invoke/VarHandle" ∧ (parseMethodDescriptor yX6_isPart.desc).map (fun d => d.parameters.length) = some 1 := by decide +kernel
abbrev rm_X1_isPivot : Room := { frames := 0, cells := 0, slots := 0, locals := 0 }
theorem hdX1_isPivot : yX1_isPivot.cls = RX1 ∧ yX1_isPivot.cls ≠ "java/lang/invoke/MethodHandle" ∧ yX1_isPivot.cls ≠ "java/lang/invoke/VarHandle" ∧ (parseMethodDescriptor yX1_isPivot.desc).map (fun d => d.parameters.length) = some 1 := by decide +kernel
abbrev rm_X1_solutionAbove : Room := { frames := 2, cells := 0, slots := 0, locals := 44 }
theorem hdX1_solutionAbove : yX1_solutionAbove.cls = RX1 ∧ yX1_solutionAbove.cls ≠ "java/lang/invoke/MethodHandle" ∧ yX1_solutionAbove.cls ≠ "java/lang/invoke/VarHandle" ∧ (parseMethodDescriptor yX1_solutionAbove.desc).map (fun d => d.parameters.length) = some 1 := by decide +kernel
abbrev rm_X6_solutionAbove : Room := { frames := 3, cells := 0, slots := 0, locals := 65 }
theorem hdX6_solutionAbove : yX6_solutionAbove.cls = RX6 ∧ yX6_solutionAbove.cls ≠ "java/lang/invoke/MethodHandle" ∧ yX6_solutionAbove.cls ≠ "java/lang/invoke/VarHandle" ∧ (parseMethodDescriptor yX6_solutionAbove.desc).map (fun d => d.parameters.length) = some 3 := by decide +kernel
abbrev rm_X6_solution : Room := { frames := 6, cells := 0, slots := 0, locals := 152 }
theorem hdX6_solution : yX6_solution.cls = RX6 ∧ yX6_solution.cls ≠ "java/lang/invoke/MethodHandle" ∧ yX6_solution.cls ≠ "java/lang/invoke/VarHandle" ∧ (parseMethodDescriptor yX6_solution.desc).map (fun d => d.parameters.length) = some 4 := by decide +kernel
abbrev rm_X1_baseAbove : Room := { frames := 2, cells := 0, slots := 0, locals := 44 }
theorem hdX1_baseAbove : yX1_baseAbove.cls = RX1 ∧ yX1_baseAbove.cls ≠ "java/lang/invoke/MethodHandle" ∧ yX1_baseAbove.cls ≠ "java/lang/invoke/VarHandle" ∧ (parseMethodDescriptor yX1_baseAbove.desc).map (fun d => d.parameters.length) = some 2 := by decide +kernel
abbrev rm_X6_base : Room := { frames := 6, cells := 0, slots := 0, locals := 152 }
theorem hdX6_base : yX6_base.cls = RX6 ∧ yX6_base.cls ≠ "java/lang/invoke/MethodHandle" ∧ yX6_base.cls ≠ "java/lang/invoke/VarHandle" ∧ (parseMethodDescriptor yX6_base.desc).map (fun d => d.parameters.length) = some 5 := by decide +kernel
abbrev rm_X1_fillTurned : Room := { frames := 2, cells := 0, slots := 0, locals := 46 }
theorem hdX1_fillTurned : yX1_fillTurned.cls = RX1 ∧ yX1_fillTurned.cls ≠ "java/lang/invoke/MethodHandle" ∧ yX1_fillTurned.cls ≠ "java/lang/invoke/VarHandle" ∧ (parseMethodDescriptor yX1_fillTurned.desc).map (fun d => d.parameters.length) = some 1 := by decide +kernel
abbrev rm_X6_witness : Room := { frames := 5, cells := 0, slots := 0, locals := 130 }
theorem hdX6_witness : yX6_witness.cls = RX6 ∧ yX6_witness.cls ≠ "java/lang/invoke/MethodHandle" ∧ yX6_witness.cls ≠ "java/lang/invoke/VarHandle" ∧ (parseMethodDescriptor yX6_witness.desc).map (fun d => d.parameters.length) = some 4 := by decide +kernel
abbrev rm_X6_isSmallWhole : Room := { frames := 2, cells := 0, slots := 0, locals := 42 }
theorem hdX6_isSmallWhole : yX6_isSmallWhole.cls = RX6 ∧ yX6_isSmallWhole.cls ≠ "java/lang/invoke/MethodHandle" ∧ yX6_isSmallWhole.cls ≠ "java/lang/invoke/VarHandle" ∧ (parseMethodDescriptor yX6_isSmallWhole.desc).map (fun d => d.parameters.length) = some 1 := by decide +kernel
abbrev rm_X6_similar : Room := { frames := 5, cells := 0, slots := 0, locals := 130 }
theorem hdX6_similar : yX6_similar.cls = RX6 ∧ yX6_similar.cls ≠ "java/lang/invoke/MethodHandle" ∧ yX6_similar.cls ≠ "java/lang/invoke/VarHandle" ∧ (parseMethodDescriptor yX6_similar.desc).map (fun d => d.parameters.length) = some 1 := by decide +kernel
abbrev rm_X1_determinant : Room := { frames := 0, cells := 0, slots := 0, locals := 0 }
theorem hdX1_determinant : yX1_determinant.cls = RX1 ∧ yX1_determinant.cls ≠ "java/lang/invoke/MethodHandle" ∧ yX1_determinant.cls ≠ "java/lang/invoke/VarHandle" ∧ (parseMethodDescriptor yX1_determinant.desc).map (fun d => d.parameters.length) = some 0 := by decide +kernel
abbrev rm_X6_whole : Room := { frames := 5, cells := 0, slots := 0, locals := 130 }
theorem hdX6_whole : yX6_whole.cls = RX6 ∧ yX6_whole.cls ≠ "java/lang/invoke/MethodHandle" ∧ yX6_whole.cls ≠ "java/lang/invoke/VarHandle" ∧ (parseMethodDescriptor yX6_whole.desc).map (fun d => d.parameters.length) = some 1 := by decide +kernel
abbrev rm_X4_splits : Room := { frames := 2, cells := 0, slots := 0, locals := 45 }
theorem hdX4_splits : yX4_splits.cls = RX4 ∧ yX4_splits.cls ≠ "java/lang/invoke/MethodHandle" ∧ yX4_splits.cls ≠ "java/lang/invoke/VarHandle" ∧ (parseMethodDescriptor yX4_splits.desc).map (fun d => d.parameters.length) = some 1 := by decide +kernel
abbrev rm_X6_lower : Room := { frames := 5, cells := 0, slots := 0, locals := 130 }
theorem hdX6_lower : yX6_lower.cls = RX6 ∧ yX6_lower.cls ≠ "java/lang/invoke/MethodHandle" ∧ yX6_lower.cls ≠ "java/lang/invoke/VarHandle" ∧ (parseMethodDescriptor yX6_lower.desc).map (fun d => d.parameters.length) = some 2 := by decide +kernel
abbrev rm_X6_swapped : Room := { frames := 4, cells := 0, slots := 0, locals := 93 }
theorem hdX6_swapped : yX6_swapped.cls = RX6 ∧ yX6_swapped.cls ≠ "java/lang/invoke/MethodHandle" ∧ yX6_swapped.cls ≠ "java/lang/invoke/VarHandle" ∧ (parseMethodDescriptor yX6_swapped.desc).map (fun d => d.parameters.length) = some 0 := by decide +kernel
abbrev rm_X6_stable : Room := { frames := 4, cells := 0, slots := 0, locals := 93 }
theorem hdX6_stable : yX6_stable.cls = RX6 ∧ yX6_stable.cls ≠ "java/lang/invoke/MethodHandle" ∧ yX6_stable.cls ≠ "java/lang/invoke/VarHandle" ∧ (parseMethodDescriptor yX6_stable.desc).map (fun d => d.parameters.length) = some 0 := by decide +kernel
abbrev rm_X2_renew : Room := { frames := 1, cells := 0, slots := 0, locals := 24 }
theorem hdX2_renew : yX2_renew.cls = RX2 ∧ yX2_renew.cls ≠ "java/lang/invoke/MethodHandle" ∧ yX2_renew.cls ≠ "java/lang/invoke/VarHandle" ∧ (parseMethodDescriptor yX2_renew.desc).map (fun d => d.parameters.length) = some 2 := by decide +kernel
abbrev rm_X2_narrowed : Room := { frames := 0, cells := 0, slots := 0, locals := 0 }
theorem hdX2_narrowed : yX2_narrowed.cls = RX2 ∧ yX2_narrowed.cls ≠ "java/lang/invoke/MethodHandle" ∧ yX2_narrowed.cls ≠ "java/lang/invoke/VarHandle" ∧ (parseMethodDescriptor yX2_narrowed.desc).map (fun d => d.parameters.length) = some 1 := by decide +kernel
abbrev rm_X2_write : Room := { frames := 1, cells := 0, slots := 0, locals := 22 }
theorem hdX2_write : yX2_write.cls = RX2 ∧ yX2_write.cls ≠ "java/lang/invoke/MethodHandle" ∧ yX2_write.cls ≠ "java/lang/invoke/VarHandle" ∧ (parseMethodDescriptor yX2_write.desc).map (fun d => d.parameters.length) = some 2 := by decide +kernel
abbrev rm_X6_isInt : Room := { frames := 0, cells := 0, slots := 0, locals := 0 }
theorem hdX6_isInt : yX6_isInt.cls ≠ "java/lang/invoke/MethodHandle" ∧ yX6_isInt.cls ≠ "java/lang/invoke/VarHandle" ∧ (parseMethodDescriptor yX6_isInt.desc).map (fun d => d.parameters.length) = some 1 := by decide +kernel
abbrev rm_X6_isLaidInInts : Room := { frames := 4, cells := 0, slots := 0, locals := 88 }
theorem hdX6_isLaidInInts : yX6_isLaidInInts.cls = RX6 ∧ yX6_isLaidInInts.cls ≠ "java/lang/invoke/MethodHandle" ∧ yX6_isLaidInInts.cls ≠ "java/lang/invoke/VarHandle" ∧ (parseMethodDescriptor yX6_isLaidInInts.desc).map (fun d => d.parameters.length) = some 2 := by decide +kernel
abbrev rm_X6_isSheet : Room := { frames := 0, cells := 0, slots := 0, locals := 0 }
theorem hdX6_isSheet : yX6_isSheet.cls ≠ "java/lang/invoke/MethodHandle" ∧ yX6_isSheet.cls ≠ "java/lang/invoke/VarHandle" ∧ (parseMethodDescriptor yX6_isSheet.desc).map (fun d => d.parameters.length) = some 1 := by decide +kernel
abbrev rm_X6_solutionDivisor : Room := { frames := 4, cells := 0, slots := 0, locals := 88 }
theorem hdX6_solutionDivisor : yX6_solutionDivisor.cls = RX6 ∧ yX6_solutionDivisor.cls ≠ "java/lang/invoke/MethodHandle" ∧ yX6_solutionDivisor.cls ≠ "java/lang/invoke/VarHandle" ∧ (parseMethodDescriptor yX6_solutionDivisor.desc).map (fun d => d.parameters.length) = some 1 := by decide +kernel
abbrev rm_X6_lay : Room := { frames := 6, cells := 0, slots := 0, locals := 152 }
theorem hdX6_lay : yX6_lay.cls = RX6 ∧ yX6_lay.cls ≠ "java/lang/invoke/MethodHandle" ∧ yX6_lay.cls ≠ "java/lang/invoke/VarHandle" ∧ (parseMethodDescriptor yX6_lay.desc).map (fun d => d.parameters.length) = some 2 := by decide +kernel
abbrev rm_X2_read : Room := { frames := 0, cells := 0, slots := 0, locals := 0 }
theorem hdX2_read : yX2_read.cls = RX2 ∧ yX2_read.cls ≠ "java/lang/invoke/MethodHandle" ∧ yX2_read.cls ≠ "java/lang/invoke/VarHandle" ∧ (parseMethodDescriptor yX2_read.desc).map (fun d => d.parameters.length) = some 1 := by decide +kernel
abbrev rm_X6_sumAt : Room := { frames := 3, cells := 0, slots := 0, locals := 68 }
theorem hdX6_sumAt : yX6_sumAt.cls = RX6 ∧ yX6_sumAt.cls ≠ "java/lang/invoke/MethodHandle" ∧ yX6_sumAt.cls ≠ "java/lang/invoke/VarHandle" ∧ (parseMethodDescriptor yX6_sumAt.desc).map (fun d => d.parameters.length) = some 5 := by decide +kernel
abbrev rm_X6_firstWrong : Room := { frames := 4, cells := 0, slots := 0, locals := 96 }
theorem hdX6_firstWrong : yX6_firstWrong.cls = RX6 ∧ yX6_firstWrong.cls ≠ "java/lang/invoke/MethodHandle" ∧ yX6_firstWrong.cls ≠ "java/lang/invoke/VarHandle" ∧ (parseMethodDescriptor yX6_firstWrong.desc).map (fun d => d.parameters.length) = some 4 := by decide +kernel
abbrev rm_X6_isOfShape : Room := { frames := 1, cells := 0, slots := 0, locals := 21 }
theorem hdX6_isOfShape : yX6_isOfShape.cls = RX6 ∧ yX6_isOfShape.cls ≠ "java/lang/invoke/MethodHandle" ∧ yX6_isOfShape.cls ≠ "java/lang/invoke/VarHandle" ∧ (parseMethodDescriptor yX6_isOfShape.desc).map (fun d => d.parameters.length) = some 2 := by decide +kernel
abbrev rm_X6_unreadable : Room := { frames := 0, cells := 0, slots := 0, locals := 0 }
theorem hdX6_unreadable : yX6_unreadable.cls = RX6 ∧ yX6_unreadable.cls ≠ "java/lang/invoke/MethodHandle" ∧ yX6_unreadable.cls ≠ "java/lang/invoke/VarHandle" ∧ (parseMethodDescriptor yX6_unreadable.desc).map (fun d => d.parameters.length) = some 1 := by decide +kernel
abbrev rm_X6_judge : Room := { frames := 5, cells := 0, slots := 0, locals := 122 }
theorem hdX6_judge : yX6_judge.cls = RX6 ∧ yX6_judge.cls ≠ "java/lang/invoke/MethodHandle" ∧ yX6_judge.cls ≠ "java/lang/invoke/VarHandle" ∧ (parseMethodDescriptor yX6_judge.desc).map (fun d => d.parameters.length) = some 3 := by decide +kernel
abbrev rm_X6_kinds : Room := { frames := 5, cells := 0, slots := 0, locals := 122 }
theorem hdX6_kinds : yX6_kinds.cls = RX6 ∧ yX6_kinds.cls ≠ "java/lang/invoke/MethodHandle" ∧ yX6_kinds.cls ≠ "java/lang/invoke/VarHandle" ∧ (parseMethodDescriptor yX6_kinds.desc).map (fun d => d.parameters.length) = some 2 := by decide +kernel
abbrev rm_X6_ratio : Room := { frames := 2, cells := 0, slots := 0, locals := 56 }
theorem hdX6_ratio : yX6_ratio.cls = RX6 ∧ yX6_ratio.cls ≠ "java/lang/invoke/MethodHandle" ∧ yX6_ratio.cls ≠ "java/lang/invoke/VarHandle" ∧ (parseMethodDescriptor yX6_ratio.desc).map (fun d => d.parameters.length) = some 3 := by decide +kernel
abbrev rm_X6_seed : Room := { frames := 0, cells := 0, slots := 0, locals := 0 }
theorem hdX6_seed : yX6_seed.cls = RX6 ∧ yX6_seed.cls ≠ "java/lang/invoke/MethodHandle" ∧ yX6_seed.cls ≠ "java/lang/invoke/VarHandle" ∧ (parseMethodDescriptor yX6_seed.desc).map (fun d => d.parameters.length) = some 1 := by decide +kernel
abbrev rm_X4_drawTable : Room := { frames := 2, cells := 0, slots := 0, locals := 46 }
theorem hdX4_drawTable : yX4_drawTable.cls = RX4 ∧ yX4_drawTable.cls ≠ "java/lang/invoke/MethodHandle" ∧ yX4_drawTable.cls ≠ "java/lang/invoke/VarHandle" ∧ (parseMethodDescriptor yX4_drawTable.desc).map (fun d => d.parameters.length) = some 1 := by decide +kernel
abbrev rm_X4_draw : Room := { frames := 3, cells := 0, slots := 0, locals := 69 }
theorem hdX4_draw : yX4_draw.cls = RX4 ∧ yX4_draw.cls ≠ "java/lang/invoke/MethodHandle" ∧ yX4_draw.cls ≠ "java/lang/invoke/VarHandle" ∧ (parseMethodDescriptor yX4_draw.desc).map (fun d => d.parameters.length) = some 0 := by decide +kernel
abbrev rm_X6_lot : Room := { frames := 4, cells := 0, slots := 0, locals := 89 }
theorem hdX6_lot : yX6_lot.cls = RX6 ∧ yX6_lot.cls ≠ "java/lang/invoke/MethodHandle" ∧ yX6_lot.cls ≠ "java/lang/invoke/VarHandle" ∧ (parseMethodDescriptor yX6_lot.desc).map (fun d => d.parameters.length) = some 0 := by decide +kernel
abbrev rm_X6_times : Room := { frames := 6, cells := 0, slots := 0, locals := 152 }
theorem hdX6_times : yX6_times.cls = RX6 ∧ yX6_times.cls ≠ "java/lang/invoke/MethodHandle" ∧ yX6_times.cls ≠ "java/lang/invoke/VarHandle" ∧ (parseMethodDescriptor yX6_times.desc).map (fun d => d.parameters.length) = some 2 := by decide +kernel
abbrev rm_X6_isSort : Room := { frames := 0, cells := 0, slots := 0, locals := 0 }
theorem hdX6_isSort : yX6_isSort.cls ≠ "java/lang/invoke/MethodHandle" ∧ yX6_isSort.cls ≠ "java/lang/invoke/VarHandle" ∧ (parseMethodDescriptor yX6_isSort.desc).map (fun d => d.parameters.length) = some 1 := by decide +kernel
abbrev rm_X6_sheet : Room := { frames := 2, cells := 0, slots := 0, locals := 46 }
theorem hdX6_sheet : yX6_sheet.cls = RX6 ∧ yX6_sheet.cls ≠ "java/lang/invoke/MethodHandle" ∧ yX6_sheet.cls ≠ "java/lang/invoke/VarHandle" ∧ (parseMethodDescriptor yX6_sheet.desc).map (fun d => d.parameters.length) = some 3 := by decide +kernel
abbrev rm_X6_put : Room := { frames := 2, cells := 0, slots := 0, locals := 45 }
theorem hdX6_put : yX6_put.cls = RX6 ∧ yX6_put.cls ≠ "java/lang/invoke/MethodHandle" ∧ yX6_put.cls ≠ "java/lang/invoke/VarHandle" ∧ (parseMethodDescriptor yX6_put.desc).map (fun d => d.parameters.length) = some 3 := by decide +kernel
abbrev rm_X6_item : Room := { frames := 1, cells := 0, slots := 0, locals := 21 }
theorem hdX6_item : yX6_item.cls = RX6 ∧ yX6_item.cls ≠ "java/lang/invoke/MethodHandle" ∧ yX6_item.cls ≠ "java/lang/invoke/VarHandle" ∧ (parseMethodDescriptor yX6_item.desc).map (fun d => d.parameters.length) = some 3 := by decide +kernel
abbrev rm_X2_hasStretch : Room := { frames := 0, cells := 0, slots := 0, locals := 0 }
theorem hdX2_hasStretch : yX2_hasStretch.cls = RX2 ∧ yX2_hasStretch.cls ≠ "java/lang/invoke/MethodHandle" ∧ yX2_hasStretch.cls ≠ "java/lang/invoke/VarHandle" ∧ (parseMethodDescriptor yX2_hasStretch.desc).map (fun d => d.parameters.length) = some 2 := by decide +kernel
abbrev rm_X6_move : Room := { frames := 1, cells := 0, slots := 0, locals := 60 }
theorem hdX6_move : yX6_move.cls = RX6 ∧ yX6_move.cls ≠ "java/lang/invoke/MethodHandle" ∧ yX6_move.cls ≠ "java/lang/invoke/VarHandle" ∧ (parseMethodDescriptor yX6_move.desc).map (fun d => d.parameters.length) = some 5 := by decide +kernel
abbrev rm_X3_hold : Room := { frames := 0, cells := 0, slots := 0, locals := 0 }
theorem hdX3_hold : yX3_hold.cls = RX3 ∧ yX3_hold.cls ≠ "java/lang/invoke/MethodHandle" ∧ yX3_hold.cls ≠ "java/lang/invoke/VarHandle" ∧ (parseMethodDescriptor yX3_hold.desc).map (fun d => d.parameters.length) = some 3 := by decide +kernel
abbrev rm_X6_isShelf : Room := { frames := 0, cells := 0, slots := 0, locals := 0 }
theorem hdX6_isShelf : yX6_isShelf.cls ≠ "java/lang/invoke/MethodHandle" ∧ yX6_isShelf.cls ≠ "java/lang/invoke/VarHandle" ∧ (parseMethodDescriptor yX6_isShelf.desc).map (fun d => d.parameters.length) = some 1 := by decide +kernel
abbrev rm_X6_shelf : Room := { frames := 1, cells := 0, slots := 0, locals := 23 }
theorem hdX6_shelf : yX6_shelf.cls = RX6 ∧ yX6_shelf.cls ≠ "java/lang/invoke/MethodHandle" ∧ yX6_shelf.cls ≠ "java/lang/invoke/VarHandle" ∧ (parseMethodDescriptor yX6_shelf.desc).map (fun d => d.parameters.length) = some 3 := by decide +kernel
abbrev rm_X6_heldNow : Room := { frames := 1, cells := 0, slots := 0, locals := 21 }
theorem hdX6_heldNow : yX6_heldNow.cls = RX6 ∧ yX6_heldNow.cls ≠ "java/lang/invoke/MethodHandle" ∧ yX6_heldNow.cls ≠ "java/lang/invoke/VarHandle" ∧ (parseMethodDescriptor yX6_heldNow.desc).map (fun d => d.parameters.length) = some 1 := by decide +kernel
abbrev rm_X6_kindAbove : Room := { frames := 0, cells := 0, slots := 0, locals := 0 }
theorem hdX6_kindAbove : yX6_kindAbove.cls ≠ "java/lang/invoke/MethodHandle" ∧ yX6_kindAbove.cls ≠ "java/lang/invoke/VarHandle" ∧ (parseMethodDescriptor yX6_kindAbove.desc).map (fun d => d.parameters.length) = some 1 := by decide +kernel
abbrev rm_X6_isUnder : Room := { frames := 1, cells := 0, slots := 0, locals := 20 }
theorem hdX6_isUnder : yX6_isUnder.cls ≠ "java/lang/invoke/MethodHandle" ∧ yX6_isUnder.cls ≠ "java/lang/invoke/VarHandle" ∧ (parseMethodDescriptor yX6_isUnder.desc).map (fun d => d.parameters.length) = some 2 := by decide +kernel
abbrev rm_X6_taken : Room := { frames := 2, cells := 0, slots := 0, locals := 43 }
theorem hdX6_taken : yX6_taken.cls = RX6 ∧ yX6_taken.cls ≠ "java/lang/invoke/MethodHandle" ∧ yX6_taken.cls ≠ "java/lang/invoke/VarHandle" ∧ (parseMethodDescriptor yX6_taken.desc).map (fun d => d.parameters.length) = some 2 := by decide +kernel
abbrev rm_X0_forget : Room := { frames := 0, cells := 0, slots := 0, locals := 0 }
theorem hdX0_forget : yX0_forget.cls = RX0 ∧ yX0_forget.cls ≠ "java/lang/invoke/MethodHandle" ∧ yX0_forget.cls ≠ "java/lang/invoke/VarHandle" ∧ (parseMethodDescriptor yX0_forget.desc).map (fun d => d.parameters.length) = some 0 := by decide +kernel
abbrev rm_X0_begin : Room := { frames := 0, cells := 0, slots := 0, locals := 0 }
theorem hdX0_begin : yX0_begin.cls = RX0 ∧ yX0_begin.cls ≠ "java/lang/invoke/MethodHandle" ∧ yX0_begin.cls ≠ "java/lang/invoke/VarHandle" ∧ (parseMethodDescriptor yX0_begin.desc).map (fun d => d.parameters.length) = some 1 := by decide +kernel
abbrev rm_X0_closes_D0 : Room := { frames := 0, cells := 0, slots := 0, locals := 0 }
theorem hdX0_closes : yX0_closes.cls = RX0 ∧ yX0_closes.cls ≠ "java/lang/invoke/MethodHandle" ∧ yX0_closes.cls ≠ "java/lang/invoke/VarHandle" ∧ (parseMethodDescriptor yX0_closes.desc).map (fun d => d.parameters.length) = some 2 := by decide +kernel
abbrev rm_X0_parts_D0 : Room := { frames := 0, cells := 0, slots := 0, locals := 0 }
theorem hdX0_parts : yX0_parts.cls = RX0 ∧ yX0_parts.cls ≠ "java/lang/invoke/MethodHandle" ∧ yX0_parts.cls ≠ "java/lang/invoke/VarHandle" ∧ (parseMethodDescriptor yX0_parts.desc).map (fun d => d.parameters.length) = some 2 := by decide +kernel
abbrev rm_X0_weighs_D0 : Room := { frames := 0, cells := 0, slots := 0, locals := 0 }
theorem hdX0_weighs : yX0_weighs.cls = RX0 ∧ yX0_weighs.cls ≠ "java/lang/invoke/MethodHandle" ∧ yX0_weighs.cls ≠ "java/lang/invoke/VarHandle" ∧ (parseMethodDescriptor yX0_weighs.desc).map (fun d => d.parameters.length) = some 2 := by decide +kernel
abbrev rm_X0_weighs_D1 : Room := { frames := 1, cells := 0, slots := 0, locals := 22 }
abbrev rm_X0_weighs_D2 : Room := { frames := 2, cells := 0, slots := 0, locals := 44 }
abbrev rm_X0_weighs_D3 : Room := { frames := 3, cells := 0, slots := 0, locals := 66 }
abbrev rm_X0_parts_D1 : Room := { frames := 4, cells := 0, slots := 0, locals := 88 }
abbrev rm_X0_parts_D2 : Room := { frames := 5, cells := 0, slots := 0, locals := 111 }
abbrev rm_X0_parts_D3 : Room := { frames := 6, cells := 0, slots := 0, locals := 134 }
abbrev rm_X0_turns_D0 : Room := { frames := 0, cells := 0, slots := 0, locals := 0 }
theorem hdX0_turns : yX0_turns.cls = RX0 ∧ yX0_turns.cls ≠ "java/lang/invoke/MethodHandle" ∧ yX0_turns.cls ≠ "java/lang/invoke/VarHandle" ∧ (parseMethodDescriptor yX0_turns.desc).map (fun d => d.parameters.length) = some 2 := by decide +kernel
abbrev rm_X0_turns_D1 : Room := { frames := 4, cells := 0, slots := 0, locals := 88 }
abbrev rm_X0_turns_D2 : Room := { frames := 5, cells := 0, slots := 0, locals := 110 }
abbrev rm_X0_turns_D3 : Room := { frames := 6, cells := 0, slots := 0, locals := 132 }
abbrev rm_X0_closes_D1 : Room := { frames := 7, cells := 0, slots := 0, locals := 157 }
abbrev rm_X0_closes_D2 : Room := { frames := 8, cells := 0, slots := 0, locals := 179 }
abbrev rm_X0_closes_D3 : Room := { frames := 9, cells := 0, slots := 0, locals := 201 }
abbrev rm_X0_run : Room := { frames := 10, cells := 0, slots := 0, locals := 223 }
theorem hdX0_run : yX0_run.cls = RX0 ∧ yX0_run.cls ≠ "java/lang/invoke/MethodHandle" ∧ yX0_run.cls ≠ "java/lang/invoke/VarHandle" ∧ (parseMethodDescriptor yX0_run.desc).map (fun d => d.parameters.length) = some 2 := by decide +kernel
abbrev rm_X6_act : Room := { frames := 11, cells := 0, slots := 0, locals := 246 }
theorem hdX6_act : yX6_act.cls = RX6 ∧ yX6_act.cls ≠ "java/lang/invoke/MethodHandle" ∧ yX6_act.cls ≠ "java/lang/invoke/VarHandle" ∧ (parseMethodDescriptor yX6_act.desc).map (fun d => d.parameters.length) = some 3 := by decide +kernel
abbrev rm_X6_trace : Room := { frames := 0, cells := 0, slots := 0, locals := 0 }
theorem hdX6_trace : yX6_trace.cls = RX6 ∧ yX6_trace.cls ≠ "java/lang/invoke/MethodHandle" ∧ yX6_trace.cls ≠ "java/lang/invoke/VarHandle" ∧ (parseMethodDescriptor yX6_trace.desc).map (fun d => d.parameters.length) = some 1 := by decide +kernel
abbrev rm_X4_fittingSet : Room := { frames := 2, cells := 0, slots := 0, locals := 42 }
theorem hdX4_fittingSet : yX4_fittingSet.cls = RX4 ∧ yX4_fittingSet.cls ≠ "java/lang/invoke/MethodHandle" ∧ yX4_fittingSet.cls ≠ "java/lang/invoke/VarHandle" ∧ (parseMethodDescriptor yX4_fittingSet.desc).map (fun d => d.parameters.length) = some 0 := by decide +kernel
abbrev rm_X4_splitSet : Room := { frames := 3, cells := 0, slots := 0, locals := 68 }
theorem hdX4_splitSet : yX4_splitSet.cls = RX4 ∧ yX4_splitSet.cls ≠ "java/lang/invoke/MethodHandle" ∧ yX4_splitSet.cls ≠ "java/lang/invoke/VarHandle" ∧ (parseMethodDescriptor yX4_splitSet.desc).map (fun d => d.parameters.length) = some 0 := by decide +kernel
abbrev rm_X6_many : Room := { frames := 4, cells := 0, slots := 0, locals := 90 }
theorem hdX6_many : yX6_many.cls = RX6 ∧ yX6_many.cls ≠ "java/lang/invoke/MethodHandle" ∧ yX6_many.cls ≠ "java/lang/invoke/VarHandle" ∧ (parseMethodDescriptor yX6_many.desc).map (fun d => d.parameters.length) = some 1 := by decide +kernel
abbrev rm_X6_keep : Room := { frames := 2, cells := 0, slots := 0, locals := 81 }
theorem hdX6_keep : yX6_keep.cls = RX6 ∧ yX6_keep.cls ≠ "java/lang/invoke/MethodHandle" ∧ yX6_keep.cls ≠ "java/lang/invoke/VarHandle" ∧ (parseMethodDescriptor yX6_keep.desc).map (fun d => d.parameters.length) = some 0 := by decide +kernel
abbrev rm_X6_again : Room := { frames := 2, cells := 0, slots := 0, locals := 81 }
theorem hdX6_again : yX6_again.cls = RX6 ∧ yX6_again.cls ≠ "java/lang/invoke/MethodHandle" ∧ yX6_again.cls ≠ "java/lang/invoke/VarHandle" ∧ (parseMethodDescriptor yX6_again.desc).map (fun d => d.parameters.length) = some 0 := by decide +kernel
abbrev rm_X7_in : Room := { frames := 0, cells := 0, slots := 0, locals := 0 }
theorem hdX7_in : yX7_in.cls ≠ "java/lang/invoke/MethodHandle" ∧ yX7_in.cls ≠ "java/lang/invoke/VarHandle" ∧ (parseMethodDescriptor yX7_in.desc).map (fun d => d.parameters.length) = some 3 := by decide +kernel
abbrev rm_X7_size : Room := { frames := 1, cells := 0, slots := 0, locals := 25 }
theorem hdX7_size : yX7_size.cls = RX7 ∧ yX7_size.cls ≠ "java/lang/invoke/MethodHandle" ∧ yX7_size.cls ≠ "java/lang/invoke/VarHandle" ∧ (parseMethodDescriptor yX7_size.desc).map (fun d => d.parameters.length) = some 2 := by decide +kernel
abbrev rm_X7_isEntry : Room := { frames := 1, cells := 0, slots := 0, locals := 25 }
theorem hdX7_isEntry : yX7_isEntry.cls ≠ "java/lang/invoke/MethodHandle" ∧ yX7_isEntry.cls ≠ "java/lang/invoke/VarHandle" ∧ (parseMethodDescriptor yX7_isEntry.desc).map (fun d => d.parameters.length) = some 2 := by decide +kernel
abbrev rm_X7_columnsOf : Room := { frames := 0, cells := 0, slots := 0, locals := 0 }
theorem hdX7_columnsOf : yX7_columnsOf.cls = RX7 ∧ yX7_columnsOf.cls ≠ "java/lang/invoke/MethodHandle" ∧ yX7_columnsOf.cls ≠ "java/lang/invoke/VarHandle" ∧ (parseMethodDescriptor yX7_columnsOf.desc).map (fun d => d.parameters.length) = some 1 := by decide +kernel
abbrev rm_X7_rowsOf : Room := { frames := 0, cells := 0, slots := 0, locals := 0 }
theorem hdX7_rowsOf : yX7_rowsOf.cls = RX7 ∧ yX7_rowsOf.cls ≠ "java/lang/invoke/MethodHandle" ∧ yX7_rowsOf.cls ≠ "java/lang/invoke/VarHandle" ∧ (parseMethodDescriptor yX7_rowsOf.desc).map (fun d => d.parameters.length) = some 1 := by decide +kernel
abbrev rm_X7_isPlace : Room := { frames := 1, cells := 0, slots := 0, locals := 25 }
theorem hdX7_isPlace : yX7_isPlace.cls = RX7 ∧ yX7_isPlace.cls ≠ "java/lang/invoke/MethodHandle" ∧ yX7_isPlace.cls ≠ "java/lang/invoke/VarHandle" ∧ (parseMethodDescriptor yX7_isPlace.desc).map (fun d => d.parameters.length) = some 3 := by decide +kernel
abbrev rm_X7_its : Room := { frames := 0, cells := 0, slots := 0, locals := 0 }
theorem hdX7_its : yX7_its.cls = RX7 ∧ yX7_its.cls ≠ "java/lang/invoke/MethodHandle" ∧ yX7_its.cls ≠ "java/lang/invoke/VarHandle" ∧ (parseMethodDescriptor yX7_its.desc).map (fun d => d.parameters.length) = some 3 := by decide +kernel
abbrev rm_X7_set : Room := { frames := 2, cells := 0, slots := 0, locals := 48 }
theorem hdX7_set : yX7_set.cls = RX7 ∧ yX7_set.cls ≠ "java/lang/invoke/MethodHandle" ∧ yX7_set.cls ≠ "java/lang/invoke/VarHandle" ∧ (parseMethodDescriptor yX7_set.desc).map (fun d => d.parameters.length) = some 4 := by decide +kernel
abbrev rm_X7_at : Room := { frames := 2, cells := 0, slots := 0, locals := 48 }
theorem hdX7_at : yX7_at.cls = RX7 ∧ yX7_at.cls ≠ "java/lang/invoke/MethodHandle" ∧ yX7_at.cls ≠ "java/lang/invoke/VarHandle" ∧ (parseMethodDescriptor yX7_at.desc).map (fun d => d.parameters.length) = some 3 := by decide +kernel
abbrev rm_X7_cross : Room := { frames := 1, cells := 0, slots := 0, locals := 23 }
theorem hdX7_cross : yX7_cross.cls = RX7 ∧ yX7_cross.cls ≠ "java/lang/invoke/MethodHandle" ∧ yX7_cross.cls ≠ "java/lang/invoke/VarHandle" ∧ (parseMethodDescriptor yX7_cross.desc).map (fun d => d.parameters.length) = some 5 := by decide +kernel
abbrev rm_X7_detOf : Room := { frames := 2, cells := 0, slots := 0, locals := 48 }
theorem hdX7_detOf : yX7_detOf.cls = RX7 ∧ yX7_detOf.cls ≠ "java/lang/invoke/MethodHandle" ∧ yX7_detOf.cls ≠ "java/lang/invoke/VarHandle" ∧ (parseMethodDescriptor yX7_detOf.desc).map (fun d => d.parameters.length) = some 1 := by decide +kernel
abbrev rm_X7_told : Room := { frames := 0, cells := 0, slots := 0, locals := 0 }
theorem hdX7_told : yX7_told.cls ≠ "java/lang/invoke/MethodHandle" ∧ yX7_told.cls ≠ "java/lang/invoke/VarHandle" ∧ (parseMethodDescriptor yX7_told.desc).map (fun d => d.parameters.length) = some 1 := by decide +kernel
abbrev rm_X7_det : Room := { frames := 3, cells := 0, slots := 0, locals := 70 }
theorem hdX7_det : yX7_det.cls = RX7 ∧ yX7_det.cls ≠ "java/lang/invoke/MethodHandle" ∧ yX7_det.cls ≠ "java/lang/invoke/VarHandle" ∧ (parseMethodDescriptor yX7_det.desc).map (fun d => d.parameters.length) = some 1 := by decide +kernel
abbrev rm_X7_sumDown : Room := { frames := 1, cells := 0, slots := 0, locals := 23 }
theorem hdX7_sumDown : yX7_sumDown.cls = RX7 ∧ yX7_sumDown.cls ≠ "java/lang/invoke/MethodHandle" ∧ yX7_sumDown.cls ≠ "java/lang/invoke/VarHandle" ∧ (parseMethodDescriptor yX7_sumDown.desc).map (fun d => d.parameters.length) = some 1 := by decide +kernel
abbrev rm_X7_diagonal : Room := { frames := 2, cells := 0, slots := 0, locals := 47 }
theorem hdX7_diagonal : yX7_diagonal.cls = RX7 ∧ yX7_diagonal.cls ≠ "java/lang/invoke/MethodHandle" ∧ yX7_diagonal.cls ≠ "java/lang/invoke/VarHandle" ∧ (parseMethodDescriptor yX7_diagonal.desc).map (fun d => d.parameters.length) = some 1 := by decide +kernel
abbrev rm_X7_pairs : Room := { frames := 2, cells := 0, slots := 0, locals := 48 }
theorem hdX7_pairs : yX7_pairs.cls = RX7 ∧ yX7_pairs.cls ≠ "java/lang/invoke/MethodHandle" ∧ yX7_pairs.cls ≠ "java/lang/invoke/VarHandle" ∧ (parseMethodDescriptor yX7_pairs.desc).map (fun d => d.parameters.length) = some 1 := by decide +kernel
abbrev rm_X7_character : Room := { frames := 3, cells := 0, slots := 0, locals := 73 }
theorem hdX7_character : yX7_character.cls = RX7 ∧ yX7_character.cls ≠ "java/lang/invoke/MethodHandle" ∧ yX7_character.cls ≠ "java/lang/invoke/VarHandle" ∧ (parseMethodDescriptor yX7_character.desc).map (fun d => d.parameters.length) = some 2 := by decide +kernel
abbrev rm_X7_feed : Room := { frames := 1, cells := 0, slots := 0, locals := 25 }
theorem hdX7_feed : yX7_feed.cls = RX7 ∧ yX7_feed.cls ≠ "java/lang/invoke/MethodHandle" ∧ yX7_feed.cls ≠ "java/lang/invoke/VarHandle" ∧ (parseMethodDescriptor yX7_feed.desc).map (fun d => d.parameters.length) = some 2 := by decide +kernel
abbrev rm_X7_isDigit : Room := { frames := 0, cells := 0, slots := 0, locals := 0 }
theorem hdX7_isDigit : yX7_isDigit.cls ≠ "java/lang/invoke/MethodHandle" ∧ yX7_isDigit.cls ≠ "java/lang/invoke/VarHandle" ∧ (parseMethodDescriptor yX7_isDigit.desc).map (fun d => d.parameters.length) = some 1 := by decide +kernel
abbrev rm_X7_isLetter : Room := { frames := 0, cells := 0, slots := 0, locals := 0 }
theorem hdX7_isLetter : yX7_isLetter.cls ≠ "java/lang/invoke/MethodHandle" ∧ yX7_isLetter.cls ≠ "java/lang/invoke/VarHandle" ∧ (parseMethodDescriptor yX7_isLetter.desc).map (fun d => d.parameters.length) = some 1 := by decide +kernel
abbrev rm_X7_next : Room := { frames := 1, cells := 0, slots := 0, locals := 20 }
theorem hdX7_next : yX7_next.cls = RX7 ∧ yX7_next.cls ≠ "java/lang/invoke/MethodHandle" ∧ yX7_next.cls ≠ "java/lang/invoke/VarHandle" ∧ (parseMethodDescriptor yX7_next.desc).map (fun d => d.parameters.length) = some 0 := by decide +kernel
abbrev rm_X7_saves : Room := { frames := 0, cells := 0, slots := 0, locals := 0 }
theorem hdX7_saves : yX7_saves.cls = RX7 ∧ yX7_saves.cls ≠ "java/lang/invoke/MethodHandle" ∧ yX7_saves.cls ≠ "java/lang/invoke/VarHandle" ∧ (parseMethodDescriptor yX7_saves.desc).map (fun d => d.parameters.length) = some 2 := by decide +kernel
abbrev rm_X7_fails : Room := { frames := 0, cells := 0, slots := 0, locals := 0 }
theorem hdX7_fails : yX7_fails.cls = RX7 ∧ yX7_fails.cls ≠ "java/lang/invoke/MethodHandle" ∧ yX7_fails.cls ≠ "java/lang/invoke/VarHandle" ∧ (parseMethodDescriptor yX7_fails.desc).map (fun d => d.parameters.length) = some 0 := by decide +kernel
abbrev rm_X7_is : Room := { frames := 0, cells := 0, slots := 0, locals := 0 }
theorem hdX7_is : yX7_is.cls = RX7 ∧ yX7_is.cls ≠ "java/lang/invoke/MethodHandle" ∧ yX7_is.cls ≠ "java/lang/invoke/VarHandle" ∧ (parseMethodDescriptor yX7_is.desc).map (fun d => d.parameters.length) = some 1 := by decide +kernel
abbrev rm_X7_entryOf : Room := { frames := 2, cells := 0, slots := 0, locals := 46 }
theorem hdX7_entryOf : yX7_entryOf.cls = RX7 ∧ yX7_entryOf.cls ≠ "java/lang/invoke/MethodHandle" ∧ yX7_entryOf.cls ≠ "java/lang/invoke/VarHandle" ∧ (parseMethodDescriptor yX7_entryOf.desc).map (fun d => d.parameters.length) = some 3 := by decide +kernel
abbrev rm_X7_table : Room := { frames := 3, cells := 0, slots := 0, locals := 72 }
theorem hdX7_table : yX7_table.cls = RX7 ∧ yX7_table.cls ≠ "java/lang/invoke/MethodHandle" ∧ yX7_table.cls ≠ "java/lang/invoke/VarHandle" ∧ (parseMethodDescriptor yX7_table.desc).map (fun d => d.parameters.length) = some 0 := by decide +kernel
abbrev rm_X7_text : Room := { frames := 4, cells := 0, slots := 0, locals := 95 }
theorem hdX7_text : yX7_text.cls = RX7 ∧ yX7_text.cls ≠ "java/lang/invoke/MethodHandle" ∧ yX7_text.cls ≠ "java/lang/invoke/VarHandle" ∧ (parseMethodDescriptor yX7_text.desc).map (fun d => d.parameters.length) = some 0 := by decide +kernel
abbrev rm_X7_isKind : Room := { frames := 1, cells := 0, slots := 0, locals := 25 }
theorem hdX7_isKind : yX7_isKind.cls ≠ "java/lang/invoke/MethodHandle" ∧ yX7_isKind.cls ≠ "java/lang/invoke/VarHandle" ∧ (parseMethodDescriptor yX7_isKind.desc).map (fun d => d.parameters.length) = some 1 := by decide +kernel
abbrev rm_X7_equation : Room := { frames := 2, cells := 0, slots := 0, locals := 45 }
theorem hdX7_equation : yX7_equation.cls = RX7 ∧ yX7_equation.cls ≠ "java/lang/invoke/MethodHandle" ∧ yX7_equation.cls ≠ "java/lang/invoke/VarHandle" ∧ (parseMethodDescriptor yX7_equation.desc).map (fun d => d.parameters.length) = some 2 := by decide +kernel
abbrev rm_X7_freeOnes : Room := { frames := 0, cells := 0, slots := 0, locals := 0 }
theorem hdX7_freeOnes : yX7_freeOnes.cls = RX7 ∧ yX7_freeOnes.cls ≠ "java/lang/invoke/MethodHandle" ∧ yX7_freeOnes.cls ≠ "java/lang/invoke/VarHandle" ∧ (parseMethodDescriptor yX7_freeOnes.desc).map (fun d => d.parameters.length) = some 0 := by decide +kernel
abbrev rm_X7_isEquation : Room := { frames := 1, cells := 0, slots := 0, locals := 25 }
theorem hdX7_isEquation : yX7_isEquation.cls = RX7 ∧ yX7_isEquation.cls ≠ "java/lang/invoke/MethodHandle" ∧ yX7_isEquation.cls ≠ "java/lang/invoke/VarHandle" ∧ (parseMethodDescriptor yX7_isEquation.desc).map (fun d => d.parameters.length) = some 1 := by decide +kernel
abbrev rm_X7_isLike : Room := { frames := 0, cells := 0, slots := 0, locals := 0 }
theorem hdX7_isLike : yX7_isLike.cls = RX7 ∧ yX7_isLike.cls ≠ "java/lang/invoke/MethodHandle" ∧ yX7_isLike.cls ≠ "java/lang/invoke/VarHandle" ∧ (parseMethodDescriptor yX7_isLike.desc).map (fun d => d.parameters.length) = some 1 := by decide +kernel
abbrev rm_X7_isUnknown : Room := { frames := 0, cells := 0, slots := 0, locals := 0 }
theorem hdX7_isUnknown : yX7_isUnknown.cls ≠ "java/lang/invoke/MethodHandle" ∧ yX7_isUnknown.cls ≠ "java/lang/invoke/VarHandle" ∧ (parseMethodDescriptor yX7_isUnknown.desc).map (fun d => d.parameters.length) = some 3 := by decide +kernel
abbrev rm_X7_unknownsOf : Room := { frames := 1, cells := 0, slots := 0, locals := 22 }
theorem hdX7_unknownsOf : yX7_unknownsOf.cls = RX7 ∧ yX7_unknownsOf.cls ≠ "java/lang/invoke/MethodHandle" ∧ yX7_unknownsOf.cls ≠ "java/lang/invoke/VarHandle" ∧ (parseMethodDescriptor yX7_unknownsOf.desc).map (fun d => d.parameters.length) = some 1 := by decide +kernel
abbrev rm_X7_isFit : Room := { frames := 2, cells := 0, slots := 0, locals := 45 }
theorem hdX7_isFit : yX7_isFit.cls = RX7 ∧ yX7_isFit.cls ≠ "java/lang/invoke/MethodHandle" ∧ yX7_isFit.cls ≠ "java/lang/invoke/VarHandle" ∧ (parseMethodDescriptor yX7_isFit.desc).map (fun d => d.parameters.length) = some 1 := by decide +kernel
abbrev rm_X7_isSolved : Room := { frames := 0, cells := 0, slots := 0, locals := 0 }
theorem hdX7_isSolved : yX7_isSolved.cls = RX7 ∧ yX7_isSolved.cls ≠ "java/lang/invoke/MethodHandle" ∧ yX7_isSolved.cls ≠ "java/lang/invoke/VarHandle" ∧ (parseMethodDescriptor yX7_isSolved.desc).map (fun d => d.parameters.length) = some 0 := by decide +kernel
abbrev rm_X7_shaped : Room := { frames := 0, cells := 0, slots := 0, locals := 0 }
theorem hdX7_shaped : yX7_shaped.cls ≠ "java/lang/invoke/MethodHandle" ∧ yX7_shaped.cls ≠ "java/lang/invoke/VarHandle" ∧ (parseMethodDescriptor yX7_shaped.desc).map (fun d => d.parameters.length) = some 5 := by decide +kernel
abbrev rm_X7_rightOf : Room := { frames := 1, cells := 0, slots := 0, locals := 23 }
theorem hdX7_rightOf : yX7_rightOf.cls = RX7 ∧ yX7_rightOf.cls ≠ "java/lang/invoke/MethodHandle" ∧ yX7_rightOf.cls ≠ "java/lang/invoke/VarHandle" ∧ (parseMethodDescriptor yX7_rightOf.desc).map (fun d => d.parameters.length) = some 3 := by decide +kernel
abbrev rm_X7_times0 : Room := { frames := 2, cells := 0, slots := 0, locals := 46 }
theorem hdX7_times0 : yX7_times0.cls = RX7 ∧ yX7_times0.cls ≠ "java/lang/invoke/MethodHandle" ∧ yX7_times0.cls ≠ "java/lang/invoke/VarHandle" ∧ (parseMethodDescriptor yX7_times0.desc).map (fun d => d.parameters.length) = some 6 := by decide +kernel
abbrev rm_X7_takenBy : Room := { frames := 3, cells := 0, slots := 0, locals := 72 }
theorem hdX7_takenBy : yX7_takenBy.cls = RX7 ∧ yX7_takenBy.cls ≠ "java/lang/invoke/MethodHandle" ∧ yX7_takenBy.cls ≠ "java/lang/invoke/VarHandle" ∧ (parseMethodDescriptor yX7_takenBy.desc).map (fun d => d.parameters.length) = some 5 := by decide +kernel
abbrev rm_X7_clears : Room := { frames := 0, cells := 0, slots := 0, locals := 0 }
theorem hdX7_clears : yX7_clears.cls = RX7 ∧ yX7_clears.cls ≠ "java/lang/invoke/MethodHandle" ∧ yX7_clears.cls ≠ "java/lang/invoke/VarHandle" ∧ (parseMethodDescriptor yX7_clears.desc).map (fun d => d.parameters.length) = some 2 := by decide +kernel
abbrev rm_X7_swaps : Room := { frames := 0, cells := 0, slots := 0, locals := 0 }
theorem hdX7_swaps : yX7_swaps.cls = RX7 ∧ yX7_swaps.cls ≠ "java/lang/invoke/MethodHandle" ∧ yX7_swaps.cls ≠ "java/lang/invoke/VarHandle" ∧ (parseMethodDescriptor yX7_swaps.desc).map (fun d => d.parameters.length) = some 2 := by decide +kernel
abbrev rm_X7_works : Room := { frames := 1, cells := 0, slots := 0, locals := 28 }
theorem hdX7_works : yX7_works.cls = RX7 ∧ yX7_works.cls ≠ "java/lang/invoke/MethodHandle" ∧ yX7_works.cls ≠ "java/lang/invoke/VarHandle" ∧ (parseMethodDescriptor yX7_works.desc).map (fun d => d.parameters.length) = some 0 := by decide +kernel
abbrev rm_X7_sets : Room := { frames := 4, cells := 0, slots := 0, locals := 100 }
theorem hdX7_sets : yX7_sets.cls = RX7 ∧ yX7_sets.cls ≠ "java/lang/invoke/MethodHandle" ∧ yX7_sets.cls ≠ "java/lang/invoke/VarHandle" ∧ (parseMethodDescriptor yX7_sets.desc).map (fun d => d.parameters.length) = some 4 := by decide +kernel
abbrev rm_X7_setsUp : Room := { frames := 5, cells := 0, slots := 0, locals := 128 }
theorem hdX7_setsUp : yX7_setsUp.cls = RX7 ∧ yX7_setsUp.cls ≠ "java/lang/invoke/MethodHandle" ∧ yX7_setsUp.cls ≠ "java/lang/invoke/VarHandle" ∧ (parseMethodDescriptor yX7_setsUp.desc).map (fun d => d.parameters.length) = some 1 := by decide +kernel
abbrev rm_X7_of : Room := { frames := 6, cells := 0, slots := 0, locals := 149 }
theorem hdX7_of : yX7_of.cls = RX7 ∧ yX7_of.cls ≠ "java/lang/invoke/MethodHandle" ∧ yX7_of.cls ≠ "java/lang/invoke/VarHandle" ∧ (parseMethodDescriptor yX7_of.desc).map (fun d => d.parameters.length) = some 2 := by decide +kernel
abbrev rm_X7_change : Room := { frames := 2, cells := 0, slots := 0, locals := 46 }
theorem hdX7_change : yX7_change.cls = RX7 ∧ yX7_change.cls ≠ "java/lang/invoke/MethodHandle" ∧ yX7_change.cls ≠ "java/lang/invoke/VarHandle" ∧ (parseMethodDescriptor yX7_change.desc).map (fun d => d.parameters.length) = some 3 := by decide +kernel
abbrev rm_X7_right : Room := { frames := 2, cells := 0, slots := 0, locals := 46 }
theorem hdX7_right : yX7_right.cls = RX7 ∧ yX7_right.cls ≠ "java/lang/invoke/MethodHandle" ∧ yX7_right.cls ≠ "java/lang/invoke/VarHandle" ∧ (parseMethodDescriptor yX7_right.desc).map (fun d => d.parameters.length) = some 3 := by decide +kernel
abbrev rm_X7_isPart : Room := { frames := 2, cells := 0, slots := 0, locals := 46 }
theorem hdX7_isPart : yX7_isPart.cls = RX7 ∧ yX7_isPart.cls ≠ "java/lang/invoke/MethodHandle" ∧ yX7_isPart.cls ≠ "java/lang/invoke/VarHandle" ∧ (parseMethodDescriptor yX7_isPart.desc).map (fun d => d.parameters.length) = some 4 := by decide +kernel
abbrev rm_X7_common : Room := { frames := 0, cells := 0, slots := 0, locals := 0 }
theorem hdX7_common : yX7_common.cls ≠ "java/lang/invoke/MethodHandle" ∧ yX7_common.cls ≠ "java/lang/invoke/VarHandle" ∧ (parseMethodDescriptor yX7_common.desc).map (fun d => d.parameters.length) = some 2 := by decide +kernel
abbrev rm_X7_partOf : Room := { frames := 1, cells := 0, slots := 0, locals := 29 }
theorem hdX7_partOf : yX7_partOf.cls ≠ "java/lang/invoke/MethodHandle" ∧ yX7_partOf.cls ≠ "java/lang/invoke/VarHandle" ∧ (parseMethodDescriptor yX7_partOf.desc).map (fun d => d.parameters.length) = some 3 := by decide +kernel
abbrev rm_X7_shapedSum : Room := { frames := 1, cells := 0, slots := 0, locals := 25 }
theorem hdX7_shapedSum : yX7_shapedSum.cls = RX7 ∧ yX7_shapedSum.cls ≠ "java/lang/invoke/MethodHandle" ∧ yX7_shapedSum.cls ≠ "java/lang/invoke/VarHandle" ∧ (parseMethodDescriptor yX7_shapedSum.desc).map (fun d => d.parameters.length) = some 4 := by decide +kernel
abbrev rm_X7_solution : Room := { frames := 6, cells := 0, slots := 0, locals := 149 }
theorem hdX7_solution : yX7_solution.cls = RX7 ∧ yX7_solution.cls ≠ "java/lang/invoke/MethodHandle" ∧ yX7_solution.cls ≠ "java/lang/invoke/VarHandle" ∧ (parseMethodDescriptor yX7_solution.desc).map (fun d => d.parameters.length) = some 4 := by decide +kernel
abbrev rm_X7_base : Room := { frames := 6, cells := 0, slots := 0, locals := 149 }
theorem hdX7_base : yX7_base.cls = RX7 ∧ yX7_base.cls ≠ "java/lang/invoke/MethodHandle" ∧ yX7_base.cls ≠ "java/lang/invoke/VarHandle" ∧ (parseMethodDescriptor yX7_base.desc).map (fun d => d.parameters.length) = some 5 := by decide +kernel
abbrev rm_X7_clearsRules : Room := { frames := 0, cells := 0, slots := 0, locals := 0 }
theorem hdX7_clearsRules : yX7_clearsRules.cls = RX7 ∧ yX7_clearsRules.cls ≠ "java/lang/invoke/MethodHandle" ∧ yX7_clearsRules.cls ≠ "java/lang/invoke/VarHandle" ∧ (parseMethodDescriptor yX7_clearsRules.desc).map (fun d => d.parameters.length) = some 4 := by decide +kernel
abbrev rm_X7_swapsRules : Room := { frames := 0, cells := 0, slots := 0, locals := 0 }
theorem hdX7_swapsRules : yX7_swapsRules.cls = RX7 ∧ yX7_swapsRules.cls ≠ "java/lang/invoke/MethodHandle" ∧ yX7_swapsRules.cls ≠ "java/lang/invoke/VarHandle" ∧ (parseMethodDescriptor yX7_swapsRules.desc).map (fun d => d.parameters.length) = some 2 := by decide +kernel
abbrev rm_X7_worksRules : Room := { frames := 4, cells := 0, slots := 0, locals := 100 }
theorem hdX7_worksRules : yX7_worksRules.cls = RX7 ∧ yX7_worksRules.cls ≠ "java/lang/invoke/MethodHandle" ∧ yX7_worksRules.cls ≠ "java/lang/invoke/VarHandle" ∧ (parseMethodDescriptor yX7_worksRules.desc).map (fun d => d.parameters.length) = some 2 := by decide +kernel
abbrev rm_X7_witness : Room := { frames := 5, cells := 0, slots := 0, locals := 128 }
theorem hdX7_witness : yX7_witness.cls = RX7 ∧ yX7_witness.cls ≠ "java/lang/invoke/MethodHandle" ∧ yX7_witness.cls ≠ "java/lang/invoke/VarHandle" ∧ (parseMethodDescriptor yX7_witness.desc).map (fun d => d.parameters.length) = some 4 := by decide +kernel
abbrev rm_X7_isSmall : Room := { frames := 1, cells := 0, slots := 0, locals := 21 }
theorem hdX7_isSmall : yX7_isSmall.cls = RX7 ∧ yX7_isSmall.cls ≠ "java/lang/invoke/MethodHandle" ∧ yX7_isSmall.cls ≠ "java/lang/invoke/VarHandle" ∧ (parseMethodDescriptor yX7_isSmall.desc).map (fun d => d.parameters.length) = some 1 := by decide +kernel
abbrev rm_X7_similar : Room := { frames := 5, cells := 0, slots := 0, locals := 128 }
theorem hdX7_similar : yX7_similar.cls = RX7 ∧ yX7_similar.cls ≠ "java/lang/invoke/MethodHandle" ∧ yX7_similar.cls ≠ "java/lang/invoke/VarHandle" ∧ (parseMethodDescriptor yX7_similar.desc).map (fun d => d.parameters.length) = some 1 := by decide +kernel
abbrev rm_X7_whole : Room := { frames := 5, cells := 0, slots := 0, locals := 128 }
theorem hdX7_whole : yX7_whole.cls = RX7 ∧ yX7_whole.cls ≠ "java/lang/invoke/MethodHandle" ∧ yX7_whole.cls ≠ "java/lang/invoke/VarHandle" ∧ (parseMethodDescriptor yX7_whole.desc).map (fun d => d.parameters.length) = some 1 := by decide +kernel
abbrev rm_X7_splits : Room := { frames := 1, cells := 0, slots := 0, locals := 23 }
theorem hdX7_splits : yX7_splits.cls = RX7 ∧ yX7_splits.cls ≠ "java/lang/invoke/MethodHandle" ∧ yX7_splits.cls ≠ "java/lang/invoke/VarHandle" ∧ (parseMethodDescriptor yX7_splits.desc).map (fun d => d.parameters.length) = some 1 := by decide +kernel
abbrev rm_X7_lower : Room := { frames := 5, cells := 0, slots := 0, locals := 128 }
theorem hdX7_lower : yX7_lower.cls = RX7 ∧ yX7_lower.cls ≠ "java/lang/invoke/MethodHandle" ∧ yX7_lower.cls ≠ "java/lang/invoke/VarHandle" ∧ (parseMethodDescriptor yX7_lower.desc).map (fun d => d.parameters.length) = some 2 := by decide +kernel
abbrev rm_X7_swapped : Room := { frames := 2, cells := 0, slots := 0, locals := 47 }
theorem hdX7_swapped : yX7_swapped.cls = RX7 ∧ yX7_swapped.cls ≠ "java/lang/invoke/MethodHandle" ∧ yX7_swapped.cls ≠ "java/lang/invoke/VarHandle" ∧ (parseMethodDescriptor yX7_swapped.desc).map (fun d => d.parameters.length) = some 0 := by decide +kernel
abbrev rm_X7_stable : Room := { frames := 3, cells := 0, slots := 0, locals := 73 }
theorem hdX7_stable : yX7_stable.cls = RX7 ∧ yX7_stable.cls ≠ "java/lang/invoke/MethodHandle" ∧ yX7_stable.cls ≠ "java/lang/invoke/VarHandle" ∧ (parseMethodDescriptor yX7_stable.desc).map (fun d => d.parameters.length) = some 0 := by decide +kernel
abbrev rm_X7_isSheet : Room := { frames := 1, cells := 0, slots := 0, locals := 25 }
theorem hdX7_isSheet : yX7_isSheet.cls ≠ "java/lang/invoke/MethodHandle" ∧ yX7_isSheet.cls ≠ "java/lang/invoke/VarHandle" ∧ (parseMethodDescriptor yX7_isSheet.desc).map (fun d => d.parameters.length) = some 1 := by decide +kernel
abbrev rm_X7_leastScale : Room := { frames := 2, cells := 0, slots := 0, locals := 55 }
theorem hdX7_leastScale : yX7_leastScale.cls = RX7 ∧ yX7_leastScale.cls ≠ "java/lang/invoke/MethodHandle" ∧ yX7_leastScale.cls ≠ "java/lang/invoke/VarHandle" ∧ (parseMethodDescriptor yX7_leastScale.desc).map (fun d => d.parameters.length) = some 1 := by decide +kernel
abbrev rm_X7_lay : Room := { frames := 6, cells := 0, slots := 0, locals := 149 }
theorem hdX7_lay : yX7_lay.cls = RX7 ∧ yX7_lay.cls ≠ "java/lang/invoke/MethodHandle" ∧ yX7_lay.cls ≠ "java/lang/invoke/VarHandle" ∧ (parseMethodDescriptor yX7_lay.desc).map (fun d => d.parameters.length) = some 2 := by decide +kernel
abbrev rm_X7_against : Room := { frames := 0, cells := 0, slots := 0, locals := 0 }
theorem hdX7_against : yX7_against.cls = RX7 ∧ yX7_against.cls ≠ "java/lang/invoke/MethodHandle" ∧ yX7_against.cls ≠ "java/lang/invoke/VarHandle" ∧ (parseMethodDescriptor yX7_against.desc).map (fun d => d.parameters.length) = some 1 := by decide +kernel
abbrev rm_X7_firstOff : Room := { frames := 3, cells := 0, slots := 0, locals := 72 }
theorem hdX7_firstOff : yX7_firstOff.cls = RX7 ∧ yX7_firstOff.cls ≠ "java/lang/invoke/MethodHandle" ∧ yX7_firstOff.cls ≠ "java/lang/invoke/VarHandle" ∧ (parseMethodDescriptor yX7_firstOff.desc).map (fun d => d.parameters.length) = some 4 := by decide +kernel
abbrev rm_X7_isShaped : Room := { frames := 0, cells := 0, slots := 0, locals := 0 }
theorem hdX7_isShaped : yX7_isShaped.cls = RX7 ∧ yX7_isShaped.cls ≠ "java/lang/invoke/MethodHandle" ∧ yX7_isShaped.cls ≠ "java/lang/invoke/VarHandle" ∧ (parseMethodDescriptor yX7_isShaped.desc).map (fun d => d.parameters.length) = some 2 := by decide +kernel
abbrev rm_X7_judge : Room := { frames := 4, cells := 0, slots := 0, locals := 100 }
theorem hdX7_judge : yX7_judge.cls = RX7 ∧ yX7_judge.cls ≠ "java/lang/invoke/MethodHandle" ∧ yX7_judge.cls ≠ "java/lang/invoke/VarHandle" ∧ (parseMethodDescriptor yX7_judge.desc).map (fun d => d.parameters.length) = some 3 := by decide +kernel
abbrev rm_X7_kinds : Room := { frames := 4, cells := 0, slots := 0, locals := 100 }
theorem hdX7_kinds : yX7_kinds.cls = RX7 ∧ yX7_kinds.cls ≠ "java/lang/invoke/MethodHandle" ∧ yX7_kinds.cls ≠ "java/lang/invoke/VarHandle" ∧ (parseMethodDescriptor yX7_kinds.desc).map (fun d => d.parameters.length) = some 2 := by decide +kernel
abbrev rm_X7_ratio : Room := { frames := 1, cells := 0, slots := 0, locals := 25 }
theorem hdX7_ratio : yX7_ratio.cls = RX7 ∧ yX7_ratio.cls ≠ "java/lang/invoke/MethodHandle" ∧ yX7_ratio.cls ≠ "java/lang/invoke/VarHandle" ∧ (parseMethodDescriptor yX7_ratio.desc).map (fun d => d.parameters.length) = some 3 := by decide +kernel
abbrev rm_X7_seed : Room := { frames := 0, cells := 0, slots := 0, locals := 0 }
theorem hdX7_seed : yX7_seed.cls = RX7 ∧ yX7_seed.cls ≠ "java/lang/invoke/MethodHandle" ∧ yX7_seed.cls ≠ "java/lang/invoke/VarHandle" ∧ (parseMethodDescriptor yX7_seed.desc).map (fun d => d.parameters.length) = some 1 := by decide +kernel
abbrev rm_X7_lots : Room := { frames := 1, cells := 0, slots := 0, locals := 21 }
theorem hdX7_lots : yX7_lots.cls = RX7 ∧ yX7_lots.cls ≠ "java/lang/invoke/MethodHandle" ∧ yX7_lots.cls ≠ "java/lang/invoke/VarHandle" ∧ (parseMethodDescriptor yX7_lots.desc).map (fun d => d.parameters.length) = some 0 := by decide +kernel
abbrev rm_X7_lot : Room := { frames := 2, cells := 0, slots := 0, locals := 44 }
theorem hdX7_lot : yX7_lot.cls = RX7 ∧ yX7_lot.cls ≠ "java/lang/invoke/MethodHandle" ∧ yX7_lot.cls ≠ "java/lang/invoke/VarHandle" ∧ (parseMethodDescriptor yX7_lot.desc).map (fun d => d.parameters.length) = some 0 := by decide +kernel
abbrev rm_X7_times : Room := { frames := 6, cells := 0, slots := 0, locals := 149 }
theorem hdX7_times : yX7_times.cls = RX7 ∧ yX7_times.cls ≠ "java/lang/invoke/MethodHandle" ∧ yX7_times.cls ≠ "java/lang/invoke/VarHandle" ∧ (parseMethodDescriptor yX7_times.desc).map (fun d => d.parameters.length) = some 2 := by decide +kernel
abbrev rm_X7_sheet : Room := { frames := 2, cells := 0, slots := 0, locals := 45 }
theorem hdX7_sheet : yX7_sheet.cls = RX7 ∧ yX7_sheet.cls ≠ "java/lang/invoke/MethodHandle" ∧ yX7_sheet.cls ≠ "java/lang/invoke/VarHandle" ∧ (parseMethodDescriptor yX7_sheet.desc).map (fun d => d.parameters.length) = some 3 := by decide +kernel
abbrev rm_X7_narrowed : Room := { frames := 0, cells := 0, slots := 0, locals := 0 }
theorem hdX7_narrowed : yX7_narrowed.cls ≠ "java/lang/invoke/MethodHandle" ∧ yX7_narrowed.cls ≠ "java/lang/invoke/VarHandle" ∧ (parseMethodDescriptor yX7_narrowed.desc).map (fun d => d.parameters.length) = some 2 := by decide +kernel
abbrev rm_X7_put : Room := { frames := 2, cells := 0, slots := 0, locals := 45 }
theorem hdX7_put : yX7_put.cls = RX7 ∧ yX7_put.cls ≠ "java/lang/invoke/MethodHandle" ∧ yX7_put.cls ≠ "java/lang/invoke/VarHandle" ∧ (parseMethodDescriptor yX7_put.desc).map (fun d => d.parameters.length) = some 3 := by decide +kernel
abbrev rm_X7_item : Room := { frames := 2, cells := 0, slots := 0, locals := 45 }
theorem hdX7_item : yX7_item.cls = RX7 ∧ yX7_item.cls ≠ "java/lang/invoke/MethodHandle" ∧ yX7_item.cls ≠ "java/lang/invoke/VarHandle" ∧ (parseMethodDescriptor yX7_item.desc).map (fun d => d.parameters.length) = some 3 := by decide +kernel
abbrev rm_X7_move : Room := { frames := 2, cells := 0, slots := 0, locals := 45 }
theorem hdX7_move : yX7_move.cls = RX7 ∧ yX7_move.cls ≠ "java/lang/invoke/MethodHandle" ∧ yX7_move.cls ≠ "java/lang/invoke/VarHandle" ∧ (parseMethodDescriptor yX7_move.desc).map (fun d => d.parameters.length) = some 5 := by decide +kernel
abbrev rm_X7_isShelf : Room := { frames := 1, cells := 0, slots := 0, locals := 25 }
theorem hdX7_isShelf : yX7_isShelf.cls ≠ "java/lang/invoke/MethodHandle" ∧ yX7_isShelf.cls ≠ "java/lang/invoke/VarHandle" ∧ (parseMethodDescriptor yX7_isShelf.desc).map (fun d => d.parameters.length) = some 1 := by decide +kernel
abbrev rm_X7_shelf : Room := { frames := 2, cells := 0, slots := 0, locals := 46 }
theorem hdX7_shelf : yX7_shelf.cls = RX7 ∧ yX7_shelf.cls ≠ "java/lang/invoke/MethodHandle" ∧ yX7_shelf.cls ≠ "java/lang/invoke/VarHandle" ∧ (parseMethodDescriptor yX7_shelf.desc).map (fun d => d.parameters.length) = some 3 := by decide +kernel
abbrev rm_X7_heldBy : Room := { frames := 2, cells := 0, slots := 0, locals := 46 }
theorem hdX7_heldBy : yX7_heldBy.cls = RX7 ∧ yX7_heldBy.cls ≠ "java/lang/invoke/MethodHandle" ∧ yX7_heldBy.cls ≠ "java/lang/invoke/VarHandle" ∧ (parseMethodDescriptor yX7_heldBy.desc).map (fun d => d.parameters.length) = some 1 := by decide +kernel
abbrev rm_X7_isUnder : Room := { frames := 0, cells := 0, slots := 0, locals := 0 }
theorem hdX7_isUnder : yX7_isUnder.cls ≠ "java/lang/invoke/MethodHandle" ∧ yX7_isUnder.cls ≠ "java/lang/invoke/VarHandle" ∧ (parseMethodDescriptor yX7_isUnder.desc).map (fun d => d.parameters.length) = some 2 := by decide +kernel
abbrev rm_X7_taken : Room := { frames := 3, cells := 0, slots := 0, locals := 67 }
theorem hdX7_taken : yX7_taken.cls = RX7 ∧ yX7_taken.cls ≠ "java/lang/invoke/MethodHandle" ∧ yX7_taken.cls ≠ "java/lang/invoke/VarHandle" ∧ (parseMethodDescriptor yX7_taken.desc).map (fun d => d.parameters.length) = some 2 := by decide +kernel
abbrev rm_X7_ran : Room := { frames := 0, cells := 0, slots := 0, locals := 0 }
theorem hdX7_ran : yX7_ran.cls = RX7 ∧ yX7_ran.cls ≠ "java/lang/invoke/MethodHandle" ∧ yX7_ran.cls ≠ "java/lang/invoke/VarHandle" ∧ (parseMethodDescriptor yX7_ran.desc).map (fun d => d.parameters.length) = some 1 := by decide +kernel
abbrev rm_X7_plainWeighs : Room := { frames := 1, cells := 0, slots := 0, locals := 21 }
theorem hdX7_plainWeighs : yX7_plainWeighs.cls = RX7 ∧ yX7_plainWeighs.cls ≠ "java/lang/invoke/MethodHandle" ∧ yX7_plainWeighs.cls ≠ "java/lang/invoke/VarHandle" ∧ (parseMethodDescriptor yX7_plainWeighs.desc).map (fun d => d.parameters.length) = some 1 := by decide +kernel
abbrev rm_X7_turnedWeighs : Room := { frames := 2, cells := 0, slots := 0, locals := 42 }
theorem hdX7_turnedWeighs : yX7_turnedWeighs.cls = RX7 ∧ yX7_turnedWeighs.cls ≠ "java/lang/invoke/MethodHandle" ∧ yX7_turnedWeighs.cls ≠ "java/lang/invoke/VarHandle" ∧ (parseMethodDescriptor yX7_turnedWeighs.desc).map (fun d => d.parameters.length) = some 1 := by decide +kernel
abbrev rm_X7_weighs : Room := { frames := 3, cells := 0, slots := 0, locals := 63 }
theorem hdX7_weighs : yX7_weighs.cls = RX7 ∧ yX7_weighs.cls ≠ "java/lang/invoke/MethodHandle" ∧ yX7_weighs.cls ≠ "java/lang/invoke/VarHandle" ∧ (parseMethodDescriptor yX7_weighs.desc).map (fun d => d.parameters.length) = some 1 := by decide +kernel
abbrev rm_X7_parts : Room := { frames := 4, cells := 0, slots := 0, locals := 84 }
theorem hdX7_parts : yX7_parts.cls = RX7 ∧ yX7_parts.cls ≠ "java/lang/invoke/MethodHandle" ∧ yX7_parts.cls ≠ "java/lang/invoke/VarHandle" ∧ (parseMethodDescriptor yX7_parts.desc).map (fun d => d.parameters.length) = some 1 := by decide +kernel
abbrev rm_X7_plainTurns : Room := { frames := 4, cells := 0, slots := 0, locals := 84 }
theorem hdX7_plainTurns : yX7_plainTurns.cls = RX7 ∧ yX7_plainTurns.cls ≠ "java/lang/invoke/MethodHandle" ∧ yX7_plainTurns.cls ≠ "java/lang/invoke/VarHandle" ∧ (parseMethodDescriptor yX7_plainTurns.desc).map (fun d => d.parameters.length) = some 1 := by decide +kernel
abbrev rm_X7_alikeTurns : Room := { frames := 5, cells := 0, slots := 0, locals := 105 }
theorem hdX7_alikeTurns : yX7_alikeTurns.cls = RX7 ∧ yX7_alikeTurns.cls ≠ "java/lang/invoke/MethodHandle" ∧ yX7_alikeTurns.cls ≠ "java/lang/invoke/VarHandle" ∧ (parseMethodDescriptor yX7_alikeTurns.desc).map (fun d => d.parameters.length) = some 1 := by decide +kernel
abbrev rm_X7_turns : Room := { frames := 6, cells := 0, slots := 0, locals := 126 }
theorem hdX7_turns : yX7_turns.cls = RX7 ∧ yX7_turns.cls ≠ "java/lang/invoke/MethodHandle" ∧ yX7_turns.cls ≠ "java/lang/invoke/VarHandle" ∧ (parseMethodDescriptor yX7_turns.desc).map (fun d => d.parameters.length) = some 1 := by decide +kernel
abbrev rm_X7_plainCloses : Room := { frames := 7, cells := 0, slots := 0, locals := 147 }
theorem hdX7_plainCloses : yX7_plainCloses.cls = RX7 ∧ yX7_plainCloses.cls ≠ "java/lang/invoke/MethodHandle" ∧ yX7_plainCloses.cls ≠ "java/lang/invoke/VarHandle" ∧ (parseMethodDescriptor yX7_plainCloses.desc).map (fun d => d.parameters.length) = some 1 := by decide +kernel
abbrev rm_X7_evenCloses : Room := { frames := 8, cells := 0, slots := 0, locals := 169 }
theorem hdX7_evenCloses : yX7_evenCloses.cls = RX7 ∧ yX7_evenCloses.cls ≠ "java/lang/invoke/MethodHandle" ∧ yX7_evenCloses.cls ≠ "java/lang/invoke/VarHandle" ∧ (parseMethodDescriptor yX7_evenCloses.desc).map (fun d => d.parameters.length) = some 1 := by decide +kernel
abbrev rm_X7_closes : Room := { frames := 9, cells := 0, slots := 0, locals := 191 }
theorem hdX7_closes : yX7_closes.cls = RX7 ∧ yX7_closes.cls ≠ "java/lang/invoke/MethodHandle" ∧ yX7_closes.cls ≠ "java/lang/invoke/VarHandle" ∧ (parseMethodDescriptor yX7_closes.desc).map (fun d => d.parameters.length) = some 1 := by decide +kernel
abbrev rm_X7_act : Room := { frames := 10, cells := 0, slots := 0, locals := 212 }
theorem hdX7_act : yX7_act.cls = RX7 ∧ yX7_act.cls ≠ "java/lang/invoke/MethodHandle" ∧ yX7_act.cls ≠ "java/lang/invoke/VarHandle" ∧ (parseMethodDescriptor yX7_act.desc).map (fun d => d.parameters.length) = some 3 := by decide +kernel
abbrev rm_X7_trace : Room := { frames := 1, cells := 0, slots := 0, locals := 25 }
theorem hdX7_trace : yX7_trace.cls = RX7 ∧ yX7_trace.cls ≠ "java/lang/invoke/MethodHandle" ∧ yX7_trace.cls ≠ "java/lang/invoke/VarHandle" ∧ (parseMethodDescriptor yX7_trace.desc).map (fun d => d.parameters.length) = some 1 := by decide +kernel
abbrev rm_X7_fitting : Room := { frames := 3, cells := 0, slots := 0, locals := 66 }
theorem hdX7_fitting : yX7_fitting.cls = RX7 ∧ yX7_fitting.cls ≠ "java/lang/invoke/MethodHandle" ∧ yX7_fitting.cls ≠ "java/lang/invoke/VarHandle" ∧ (parseMethodDescriptor yX7_fitting.desc).map (fun d => d.parameters.length) = some 0 := by decide +kernel
abbrev rm_X7_splitting : Room := { frames := 2, cells := 0, slots := 0, locals := 46 }
theorem hdX7_splitting : yX7_splitting.cls = RX7 ∧ yX7_splitting.cls ≠ "java/lang/invoke/MethodHandle" ∧ yX7_splitting.cls ≠ "java/lang/invoke/VarHandle" ∧ (parseMethodDescriptor yX7_splitting.desc).map (fun d => d.parameters.length) = some 0 := by decide +kernel
abbrev rm_X7_many : Room := { frames := 4, cells := 0, slots := 0, locals := 88 }
theorem hdX7_many : yX7_many.cls = RX7 ∧ yX7_many.cls ≠ "java/lang/invoke/MethodHandle" ∧ yX7_many.cls ≠ "java/lang/invoke/VarHandle" ∧ (parseMethodDescriptor yX7_many.desc).map (fun d => d.parameters.length) = some 1 := by decide +kernel
abbrev rm_X7_keep : Room := { frames := 1, cells := 0, slots := 0, locals := 23 }
theorem hdX7_keep : yX7_keep.cls = RX7 ∧ yX7_keep.cls ≠ "java/lang/invoke/MethodHandle" ∧ yX7_keep.cls ≠ "java/lang/invoke/VarHandle" ∧ (parseMethodDescriptor yX7_keep.desc).map (fun d => d.parameters.length) = some 0 := by decide +kernel
abbrev rm_X7_again : Room := { frames := 1, cells := 0, slots := 0, locals := 23 }
theorem hdX7_again : yX7_again.cls = RX7 ∧ yX7_again.cls ≠ "java/lang/invoke/MethodHandle" ∧ yX7_again.cls ≠ "java/lang/invoke/VarHandle" ∧ (parseMethodDescriptor yX7_again.desc).map (fun d => d.parameters.length) = some 0 := by decide +kernel
set_option maxRecDepth 20000 in
theorem in_X4_resize_4 : ∀ w ∈ wsX40, w ∈ wsX4_resize := in_of [10, 11, 12, 13, 14, 15, 16, 17, 18] (by decide +kernel)
set_option maxRecDepth 20000 in
theorem in_X6_size_4 : ∀ w ∈ wsX40, w ∈ wsX6_size := in_of [28, 29, 30, 31, 32, 33, 34, 35, 36] (by decide +kernel)
set_option maxRecDepth 20000 in
theorem in_X6_size_6 : ∀ w ∈ wsX60, w ∈ wsX6_size := in_of [18, 19, 20, 21, 22, 23, 24, 25, 26, 27] (by decide +kernel)
set_option maxRecDepth 20000 in
theorem in_X4_entry_4 : ∀ w ∈ wsX40, w ∈ wsX4_entry := in_of [8, 9, 10, 11, 12, 13, 14, 15, 16] (by decide +kernel)
set_option maxRecDepth 20000 in
theorem in_X4_columns_4 : ∀ w ∈ wsX40, w ∈ wsX4_columns := in_of [3, 4, 5, 6, 7, 8, 9, 10, 11] (by decide +kernel)
set_option maxRecDepth 20000 in
theorem in_X4_rows_4 : ∀ w ∈ wsX40, w ∈ wsX4_rows := in_of [3, 4, 5, 6, 7, 8, 9, 10, 11] (by decide +kernel)
set_option maxRecDepth 20000 in
theorem in_X4_store_4 : ∀ w ∈ wsX40, w ∈ wsX4_store := in_of [8, 9, 10, 11, 12, 13, 14, 15, 16] (by decide +kernel)
set_option maxRecDepth 20000 in
theorem in_X6_set_6 : ∀ w ∈ wsX60, w ∈ wsX6_set := in_of [35, 36, 37, 38, 39, 40, 41, 42, 43, 44] (by decide +kernel)
set_option maxRecDepth 20000 in
theorem in_X6_at_6 : ∀ w ∈ wsX60, w ∈ wsX6_at := in_of [27, 28, 29, 30, 31, 32, 33, 34, 35, 36] (by decide +kernel)
set_option maxRecDepth 20000 in
theorem in_X6_det_6 : ∀ w ∈ wsX60, w ∈ wsX6_det := in_of [36, 37, 38, 39, 40, 41, 42, 43, 44, 45] (by decide +kernel)
set_option maxRecDepth 20000 in
theorem in_X6_diagonal_4 : ∀ w ∈ wsX40, w ∈ wsX6_diagonal := in_of [42, 43, 44, 45, 46, 47, 48, 49, 50] (by decide +kernel)
set_option maxRecDepth 20000 in
theorem in_X6_diagonal_6 : ∀ w ∈ wsX60, w ∈ wsX6_diagonal := in_of [32, 33, 34, 35, 36, 37, 38, 39, 40, 41] (by decide +kernel)
set_option maxRecDepth 20000 in
theorem in_X6_character_6 : ∀ w ∈ wsX60, w ∈ wsX6_character := in_of [36, 37, 38, 39, 40, 41, 42, 43, 44, 45] (by decide +kernel)
set_option maxRecDepth 20000 in
theorem in_X5_take_5 : ∀ w ∈ wsX50, w ∈ wsX5_take := in_of [3, 4, 5] (by decide +kernel)
set_option maxRecDepth 20000 in
theorem in_X6_feed_5 : ∀ w ∈ wsX50, w ∈ wsX6_feed := in_of [20, 21, 22] (by decide +kernel)
set_option maxRecDepth 20000 in
theorem in_X6_feed_6 : ∀ w ∈ wsX60, w ∈ wsX6_feed := in_of [10, 11, 12, 13, 14, 15, 16, 17, 18, 19] (by decide +kernel)
set_option maxRecDepth 20000 in
theorem in_X4_copyFrom_4 : ∀ w ∈ wsX40, w ∈ wsX4_copyFrom := in_of [14, 15, 16, 17, 18, 19, 20, 21, 22] (by decide +kernel)
set_option maxRecDepth 20000 in
theorem in_X5_here_5 : ∀ w ∈ wsX50, w ∈ wsX5_here := in_of [4, 5, 6] (by decide +kernel)
set_option maxRecDepth 20000 in
theorem in_X5_readName_5 : ∀ w ∈ wsX50, w ∈ wsX5_readName := in_of [13, 14, 15] (by decide +kernel)
set_option maxRecDepth 20000 in
theorem in_X5_skipBlanks_5 : ∀ w ∈ wsX50, w ∈ wsX5_skipBlanks := in_of [9, 10, 11] (by decide +kernel)
set_option maxRecDepth 20000 in
theorem in_X5_readMark_5 : ∀ w ∈ wsX50, w ∈ wsX5_readMark := in_of [13, 14, 15] (by decide +kernel)
set_option maxRecDepth 20000 in
theorem in_X5_readEntry_5 : ∀ w ∈ wsX50, w ∈ wsX5_readEntry := in_of [35, 36, 37] (by decide +kernel)
set_option maxRecDepth 20000 in
theorem in_X5_tell_5 : ∀ w ∈ wsX50, w ∈ wsX5_tell := in_of [57, 58, 59] (by decide +kernel)
set_option maxRecDepth 20000 in
theorem in_X6_text_5 : ∀ w ∈ wsX50, w ∈ wsX6_text := in_of [87, 88, 89] (by decide +kernel)
set_option maxRecDepth 20000 in
theorem in_X6_text_6 : ∀ w ∈ wsX60, w ∈ wsX6_text := in_of [77, 78, 79, 80, 81, 82, 83, 84, 85, 86] (by decide +kernel)
set_option maxRecDepth 20000 in
theorem in_X4_hasEquation_4 : ∀ w ∈ wsX40, w ∈ wsX4_hasEquation := in_of [2, 3, 4, 5, 6, 7, 8, 9, 10] (by decide +kernel)
set_option maxRecDepth 20000 in
theorem in_X4_become_4 : ∀ w ∈ wsX40, w ∈ wsX4_become := in_of [9, 10, 11, 12, 13, 14, 15, 16, 17] (by decide +kernel)
set_option maxRecDepth 20000 in
theorem in_X6_equation_4 : ∀ w ∈ wsX40, w ∈ wsX6_equation := in_of [32, 33, 34, 35, 36, 37, 38, 39, 40] (by decide +kernel)
set_option maxRecDepth 20000 in
theorem in_X6_equation_6 : ∀ w ∈ wsX60, w ∈ wsX6_equation := in_of [22, 23, 24, 25, 26, 27, 28, 29, 30, 31] (by decide +kernel)
set_option maxRecDepth 20000 in
theorem in_X1_isFree_1 : ∀ w ∈ wsX10, w ∈ wsX1_isFree := in_of [3, 4, 5, 6, 7, 8, 9] (by decide +kernel)
set_option maxRecDepth 20000 in
theorem in_X1_freeSet_1 : ∀ w ∈ wsX10, w ∈ wsX1_freeSet := in_of [8, 9, 10, 11, 12, 13, 14] (by decide +kernel)
set_option maxRecDepth 20000 in
theorem in_X1_cell_1 : ∀ w ∈ wsX10, w ∈ wsX1_cell := in_of [7, 8, 9, 10, 11, 12, 13] (by decide +kernel)
set_option maxRecDepth 20000 in
theorem in_X1_isSolvable_1 : ∀ w ∈ wsX10, w ∈ wsX1_isSolvable := in_of [14, 15, 16, 17, 18, 19, 20] (by decide +kernel)
set_option maxRecDepth 20000 in
theorem in_X4_hasRight_4 : ∀ w ∈ wsX40, w ∈ wsX4_hasRight := in_of [3, 4, 5, 6, 7, 8, 9, 10, 11] (by decide +kernel)
set_option maxRecDepth 20000 in
theorem in_X4_unknowns_4 : ∀ w ∈ wsX40, w ∈ wsX4_unknowns := in_of [3, 4, 5, 6, 7, 8, 9, 10, 11] (by decide +kernel)
set_option maxRecDepth 20000 in
theorem in_X4_kindOf_4 : ∀ w ∈ wsX40, w ∈ wsX4_kindOf := in_of [8, 9, 10, 11, 12, 13, 14, 15, 16] (by decide +kernel)
set_option maxRecDepth 20000 in
theorem in_X4_shiftOf_4 : ∀ w ∈ wsX40, w ∈ wsX4_shiftOf := in_of [8, 9, 10, 11, 12, 13, 14, 15, 16] (by decide +kernel)
set_option maxRecDepth 20000 in
theorem in_X1_firstFilled_1 : ∀ w ∈ wsX10, w ∈ wsX1_firstFilled := in_of [13, 14, 15, 16, 17, 18, 19] (by decide +kernel)
set_option maxRecDepth 20000 in
theorem in_X1_write_1 : ∀ w ∈ wsX10, w ∈ wsX1_write := in_of [7, 8, 9, 10, 11, 12, 13] (by decide +kernel)
set_option maxRecDepth 20000 in
theorem in_X1_swapRows_1 : ∀ w ∈ wsX10, w ∈ wsX1_swapRows := in_of [17, 18, 19, 20, 21, 22, 23] (by decide +kernel)
set_option maxRecDepth 20000 in
theorem in_X1_sweep_1 : ∀ w ∈ wsX10, w ∈ wsX1_sweep := in_of [18, 19, 20, 21, 22, 23, 24] (by decide +kernel)
set_option maxRecDepth 20000 in
theorem in_X1_eliminate_1 : ∀ w ∈ wsX10, w ∈ wsX1_eliminate := in_of [33, 34, 35, 36, 37, 38, 39] (by decide +kernel)
set_option maxRecDepth 20000 in
theorem in_X1_clear_1 : ∀ w ∈ wsX10, w ∈ wsX1_clear := in_of [15, 16, 17, 18, 19, 20, 21] (by decide +kernel)
set_option maxRecDepth 20000 in
theorem in_X4_unknownAt_4 : ∀ w ∈ wsX40, w ∈ wsX4_unknownAt := in_of [9, 10, 11, 12, 13, 14, 15, 16, 17] (by decide +kernel)
set_option maxRecDepth 20000 in
theorem in_X6_fillRow_4 : ∀ w ∈ wsX40, w ∈ wsX6_fillRow := in_of [68, 69, 70, 71, 72, 73, 74, 75, 76] (by decide +kernel)
set_option maxRecDepth 20000 in
theorem in_X6_fillRow_6 : ∀ w ∈ wsX60, w ∈ wsX6_fillRow := in_of [58, 59, 60, 61, 62, 63, 64, 65, 66, 67] (by decide +kernel)
set_option maxRecDepth 20000 in
theorem in_X6_fillGrid_4 : ∀ w ∈ wsX40, w ∈ wsX6_fillGrid := in_of [91, 92, 93, 94, 95, 96, 97, 98, 99] (by decide +kernel)
set_option maxRecDepth 20000 in
theorem in_X6_fillGrid_6 : ∀ w ∈ wsX60, w ∈ wsX6_fillGrid := in_of [81, 82, 83, 84, 85, 86, 87, 88, 89, 90] (by decide +kernel)
set_option maxRecDepth 20000 in
theorem in_X6_solve_6 : ∀ w ∈ wsX60, w ∈ wsX6_solve := in_of [120, 121, 122, 123, 124, 125, 126, 127, 128, 129] (by decide +kernel)
set_option maxRecDepth 20000 in
theorem in_X6_of_1 : ∀ w ∈ wsX10, w ∈ wsX6_of := in_of [161, 162, 163, 164, 165, 166, 167] (by decide +kernel)
set_option maxRecDepth 20000 in
theorem in_X6_of_6 : ∀ w ∈ wsX60, w ∈ wsX6_of := in_of [151, 152, 153, 154, 155, 156, 157, 158, 159, 160] (by decide +kernel)
set_option maxRecDepth 20000 in
theorem in_X6_change_6 : ∀ w ∈ wsX60, w ∈ wsX6_change := in_of [26, 27, 28, 29, 30, 31, 32, 33, 34, 35] (by decide +kernel)
set_option maxRecDepth 20000 in
theorem in_X6_right_6 : ∀ w ∈ wsX60, w ∈ wsX6_right := in_of [51, 52, 53, 54, 55, 56, 57, 58, 59, 60] (by decide +kernel)
set_option maxRecDepth 20000 in
theorem in_X1_isPivot_1 : ∀ w ∈ wsX10, w ∈ wsX1_isPivot := in_of [3, 4, 5, 6, 7, 8, 9] (by decide +kernel)
set_option maxRecDepth 20000 in
theorem in_X1_solutionAbove_1 : ∀ w ∈ wsX10, w ∈ wsX1_solutionAbove := in_of [17, 18, 19, 20, 21, 22, 23] (by decide +kernel)
set_option maxRecDepth 20000 in
theorem in_X6_solutionAbove_6 : ∀ w ∈ wsX60, w ∈ wsX6_solutionAbove := in_of [40, 41, 42, 43, 44, 45, 46, 47, 48, 49] (by decide +kernel)
set_option maxRecDepth 20000 in
theorem in_X6_solution_1 : ∀ w ∈ wsX10, w ∈ wsX6_solution := in_of [188, 189, 190, 191, 192, 193, 194] (by decide +kernel)
set_option maxRecDepth 20000 in
theorem in_X6_solution_6 : ∀ w ∈ wsX60, w ∈ wsX6_solution := in_of [178, 179, 180, 181, 182, 183, 184, 185, 186, 187] (by decide +kernel)
set_option maxRecDepth 20000 in
theorem in_X1_baseAbove_1 : ∀ w ∈ wsX10, w ∈ wsX1_baseAbove := in_of [18, 19, 20, 21, 22, 23, 24] (by decide +kernel)
set_option maxRecDepth 20000 in
theorem in_X6_base_1 : ∀ w ∈ wsX10, w ∈ wsX6_base := in_of [184, 185, 186, 187, 188, 189, 190] (by decide +kernel)
set_option maxRecDepth 20000 in
theorem in_X6_base_6 : ∀ w ∈ wsX60, w ∈ wsX6_base := in_of [174, 175, 176, 177, 178, 179, 180, 181, 182, 183] (by decide +kernel)
set_option maxRecDepth 20000 in
theorem in_X1_fillTurned_1 : ∀ w ∈ wsX10, w ∈ wsX1_fillTurned := in_of [32, 33, 34, 35, 36, 37, 38] (by decide +kernel)
set_option maxRecDepth 20000 in
theorem in_X6_witness_1 : ∀ w ∈ wsX10, w ∈ wsX6_witness := in_of [195, 196, 197, 198, 199, 200, 201] (by decide +kernel)
set_option maxRecDepth 20000 in
theorem in_X6_witness_4 : ∀ w ∈ wsX40, w ∈ wsX6_witness := in_of [186, 187, 188, 189, 190, 191, 192, 193, 194] (by decide +kernel)
set_option maxRecDepth 20000 in
theorem in_X6_witness_6 : ∀ w ∈ wsX60, w ∈ wsX6_witness := in_of [176, 177, 178, 179, 180, 181, 182, 183, 184, 185] (by decide +kernel)
set_option maxRecDepth 20000 in
theorem in_X6_isSmallWhole_4 : ∀ w ∈ wsX40, w ∈ wsX6_isSmallWhole := in_of [31, 32, 33, 34, 35, 36, 37, 38, 39] (by decide +kernel)
set_option maxRecDepth 20000 in
theorem in_X6_isSmallWhole_6 : ∀ w ∈ wsX60, w ∈ wsX6_isSmallWhole := in_of [21, 22, 23, 24, 25, 26, 27, 28, 29, 30] (by decide +kernel)
set_option maxRecDepth 20000 in
theorem in_X6_similar_6 : ∀ w ∈ wsX60, w ∈ wsX6_similar := in_of [136, 137, 138, 139, 140, 141, 142, 143, 144, 145] (by decide +kernel)
set_option maxRecDepth 20000 in
theorem in_X1_determinant_1 : ∀ w ∈ wsX10, w ∈ wsX1_determinant := in_of [5, 6, 7, 8, 9, 10, 11] (by decide +kernel)
set_option maxRecDepth 20000 in
theorem in_X6_whole_6 : ∀ w ∈ wsX60, w ∈ wsX6_whole := in_of [137, 138, 139, 140, 141, 142, 143, 144, 145, 146] (by decide +kernel)
set_option maxRecDepth 20000 in
theorem in_X4_splits_4 : ∀ w ∈ wsX40, w ∈ wsX4_splits := in_of [13, 14, 15, 16, 17, 18, 19, 20, 21] (by decide +kernel)
set_option maxRecDepth 20000 in
theorem in_X6_lower_4 : ∀ w ∈ wsX40, w ∈ wsX6_lower := in_of [146, 147, 148, 149, 150, 151, 152, 153, 154] (by decide +kernel)
set_option maxRecDepth 20000 in
theorem in_X6_lower_6 : ∀ w ∈ wsX60, w ∈ wsX6_lower := in_of [136, 137, 138, 139, 140, 141, 142, 143, 144, 145] (by decide +kernel)
set_option maxRecDepth 20000 in
theorem in_X6_swapped_4 : ∀ w ∈ wsX40, w ∈ wsX6_swapped := in_of [41, 42, 43, 44, 45, 46, 47, 48, 49] (by decide +kernel)
set_option maxRecDepth 20000 in
theorem in_X6_swapped_6 : ∀ w ∈ wsX60, w ∈ wsX6_swapped := in_of [31, 32, 33, 34, 35, 36, 37, 38, 39, 40] (by decide +kernel)
set_option maxRecDepth 20000 in
theorem in_X6_stable_4 : ∀ w ∈ wsX40, w ∈ wsX6_stable := in_of [40, 41, 42, 43, 44, 45, 46, 47, 48] (by decide +kernel)
set_option maxRecDepth 20000 in
theorem in_X6_stable_6 : ∀ w ∈ wsX60, w ∈ wsX6_stable := in_of [30, 31, 32, 33, 34, 35, 36, 37, 38, 39] (by decide +kernel)
set_option maxRecDepth 20000 in
theorem in_X2_renew_2 : ∀ w ∈ wsX20, w ∈ wsX2_renew := in_of [15, 16, 17] (by decide +kernel)
set_option maxRecDepth 20000 in
theorem in_X2_narrowed_2 : ∀ w ∈ wsX20, w ∈ wsX2_narrowed := in_of [2, 3, 4] (by decide +kernel)
set_option maxRecDepth 20000 in
theorem in_X2_write_2 : ∀ w ∈ wsX20, w ∈ wsX2_write := in_of [9, 10, 11] (by decide +kernel)
set_option maxRecDepth 20000 in
theorem in_X6_isLaidInInts_1 : ∀ w ∈ wsX10, w ∈ wsX6_isLaidInInts := in_of [61, 62, 63, 64, 65, 66, 67] (by decide +kernel)
set_option maxRecDepth 20000 in
theorem in_X6_isLaidInInts_4 : ∀ w ∈ wsX40, w ∈ wsX6_isLaidInInts := in_of [68, 69, 70, 71, 72, 73, 74, 75, 76] (by decide +kernel)
set_option maxRecDepth 20000 in
theorem in_X6_isLaidInInts_6 : ∀ w ∈ wsX60, w ∈ wsX6_isLaidInInts := in_of [51, 52, 53, 54, 55, 56, 57, 58, 59, 60] (by decide +kernel)
set_option maxRecDepth 20000 in
theorem in_X6_solutionDivisor_1 : ∀ w ∈ wsX10, w ∈ wsX6_solutionDivisor := in_of [61, 62, 63, 64, 65, 66, 67] (by decide +kernel)
set_option maxRecDepth 20000 in
theorem in_X6_solutionDivisor_4 : ∀ w ∈ wsX40, w ∈ wsX6_solutionDivisor := in_of [68, 69, 70, 71, 72, 73, 74, 75, 76] (by decide +kernel)
set_option maxRecDepth 20000 in
theorem in_X6_solutionDivisor_6 : ∀ w ∈ wsX60, w ∈ wsX6_solutionDivisor := in_of [51, 52, 53, 54, 55, 56, 57, 58, 59, 60] (by decide +kernel)
set_option maxRecDepth 20000 in
theorem in_X6_lay_1 : ∀ w ∈ wsX10, w ∈ wsX6_lay := in_of [207, 208, 209, 210, 211, 212, 213] (by decide +kernel)
set_option maxRecDepth 20000 in
theorem in_X6_lay_4 : ∀ w ∈ wsX40, w ∈ wsX6_lay := in_of [198, 199, 200, 201, 202, 203, 204, 205, 206] (by decide +kernel)
set_option maxRecDepth 20000 in
theorem in_X6_lay_6 : ∀ w ∈ wsX60, w ∈ wsX6_lay := in_of [188, 189, 190, 191, 192, 193, 194, 195, 196, 197] (by decide +kernel)
set_option maxRecDepth 20000 in
theorem in_X2_read_2 : ∀ w ∈ wsX20, w ∈ wsX2_read := in_of [3, 4, 5] (by decide +kernel)
set_option maxRecDepth 20000 in
theorem in_X6_sumAt_4 : ∀ w ∈ wsX40, w ∈ wsX6_sumAt := in_of [40, 41, 42, 43, 44, 45, 46, 47, 48] (by decide +kernel)
set_option maxRecDepth 20000 in
theorem in_X6_sumAt_6 : ∀ w ∈ wsX60, w ∈ wsX6_sumAt := in_of [30, 31, 32, 33, 34, 35, 36, 37, 38, 39] (by decide +kernel)
set_option maxRecDepth 20000 in
theorem in_X6_firstWrong_4 : ∀ w ∈ wsX40, w ∈ wsX6_firstWrong := in_of [46, 47, 48, 49, 50, 51, 52, 53, 54] (by decide +kernel)
set_option maxRecDepth 20000 in
theorem in_X6_firstWrong_6 : ∀ w ∈ wsX60, w ∈ wsX6_firstWrong := in_of [36, 37, 38, 39, 40, 41, 42, 43, 44, 45] (by decide +kernel)
set_option maxRecDepth 20000 in
theorem in_X6_isOfShape_4 : ∀ w ∈ wsX40, w ∈ wsX6_isOfShape := in_of [21, 22, 23, 24, 25, 26, 27, 28, 29] (by decide +kernel)
set_option maxRecDepth 20000 in
theorem in_X6_isOfShape_6 : ∀ w ∈ wsX60, w ∈ wsX6_isOfShape := in_of [11, 12, 13, 14, 15, 16, 17, 18, 19, 20] (by decide +kernel)
set_option maxRecDepth 20000 in
theorem in_X6_unreadable_2 : ∀ w ∈ wsX20, w ∈ wsX6_unreadable := in_of [6, 7, 8] (by decide +kernel)
set_option maxRecDepth 20000 in
theorem in_X6_unreadable_4 : ∀ w ∈ wsX40, w ∈ wsX6_unreadable := in_of [19, 20, 21, 22, 23, 24, 25, 26, 27] (by decide +kernel)
set_option maxRecDepth 20000 in
theorem in_X6_unreadable_6 : ∀ w ∈ wsX60, w ∈ wsX6_unreadable := in_of [9, 10, 11, 12, 13, 14, 15, 16, 17, 18] (by decide +kernel)
set_option maxRecDepth 20000 in
theorem in_X6_judge_4 : ∀ w ∈ wsX40, w ∈ wsX6_judge := in_of [86, 87, 88, 89, 90, 91, 92, 93, 94] (by decide +kernel)
set_option maxRecDepth 20000 in
theorem in_X6_judge_6 : ∀ w ∈ wsX60, w ∈ wsX6_judge := in_of [76, 77, 78, 79, 80, 81, 82, 83, 84, 85] (by decide +kernel)
set_option maxRecDepth 20000 in
theorem in_X6_kinds_4 : ∀ w ∈ wsX40, w ∈ wsX6_kinds := in_of [73, 74, 75, 76, 77, 78, 79, 80, 81] (by decide +kernel)
set_option maxRecDepth 20000 in
theorem in_X6_kinds_6 : ∀ w ∈ wsX60, w ∈ wsX6_kinds := in_of [63, 64, 65, 66, 67, 68, 69, 70, 71, 72] (by decide +kernel)
set_option maxRecDepth 20000 in
theorem in_X6_seed_4 : ∀ w ∈ wsX40, w ∈ wsX6_seed := in_of [13, 14, 15, 16, 17, 18, 19, 20, 21] (by decide +kernel)
set_option maxRecDepth 20000 in
theorem in_X6_seed_6 : ∀ w ∈ wsX60, w ∈ wsX6_seed := in_of [3, 4, 5, 6, 7, 8, 9, 10, 11, 12] (by decide +kernel)
set_option maxRecDepth 20000 in
theorem in_X4_drawTable_4 : ∀ w ∈ wsX40, w ∈ wsX4_drawTable := in_of [24, 25, 26, 27, 28, 29, 30, 31, 32] (by decide +kernel)
set_option maxRecDepth 20000 in
theorem in_X6_lot_6 : ∀ w ∈ wsX60, w ∈ wsX6_lot := in_of [37, 38, 39, 40, 41, 42, 43, 44, 45, 46] (by decide +kernel)
set_option maxRecDepth 20000 in
theorem in_X6_times_4 : ∀ w ∈ wsX40, w ∈ wsX6_times := in_of [183, 184, 185, 186, 187, 188, 189, 190, 191] (by decide +kernel)
set_option maxRecDepth 20000 in
theorem in_X6_times_6 : ∀ w ∈ wsX60, w ∈ wsX6_times := in_of [173, 174, 175, 176, 177, 178, 179, 180, 181, 182] (by decide +kernel)
set_option maxRecDepth 20000 in
theorem in_X6_sheet_6 : ∀ w ∈ wsX60, w ∈ wsX6_sheet := in_of [28, 29, 30, 31, 32, 33, 34, 35, 36, 37] (by decide +kernel)
set_option maxRecDepth 20000 in
theorem in_X6_put_2 : ∀ w ∈ wsX20, w ∈ wsX6_put := in_of [30, 31, 32] (by decide +kernel)
set_option maxRecDepth 20000 in
theorem in_X6_put_6 : ∀ w ∈ wsX60, w ∈ wsX6_put := in_of [20, 21, 22, 23, 24, 25, 26, 27, 28, 29] (by decide +kernel)
set_option maxRecDepth 20000 in
theorem in_X6_item_2 : ∀ w ∈ wsX20, w ∈ wsX6_item := in_of [28, 29, 30] (by decide +kernel)
set_option maxRecDepth 20000 in
theorem in_X6_item_6 : ∀ w ∈ wsX60, w ∈ wsX6_item := in_of [18, 19, 20, 21, 22, 23, 24, 25, 26, 27] (by decide +kernel)
set_option maxRecDepth 20000 in
theorem in_X2_hasStretch_2 : ∀ w ∈ wsX20, w ∈ wsX2_hasStretch := in_of [2, 3, 4] (by decide +kernel)
set_option maxRecDepth 20000 in
theorem in_X6_move_2 : ∀ w ∈ wsX20, w ∈ wsX6_move := in_of [28, 29, 30] (by decide +kernel)
set_option maxRecDepth 20000 in
theorem in_X6_move_6 : ∀ w ∈ wsX60, w ∈ wsX6_move := in_of [18, 19, 20, 21, 22, 23, 24, 25, 26, 27] (by decide +kernel)
set_option maxRecDepth 20000 in
theorem in_X3_hold_3 : ∀ w ∈ wsX30, w ∈ wsX3_hold := in_of [4, 5, 6] (by decide +kernel)
set_option maxRecDepth 20000 in
theorem in_X6_shelf_2 : ∀ w ∈ wsX20, w ∈ wsX6_shelf := in_of [37, 38, 39] (by decide +kernel)
set_option maxRecDepth 20000 in
theorem in_X6_shelf_6 : ∀ w ∈ wsX60, w ∈ wsX6_shelf := in_of [27, 28, 29, 30, 31, 32, 33, 34, 35, 36] (by decide +kernel)
set_option maxRecDepth 20000 in
theorem in_X6_heldNow_3 : ∀ w ∈ wsX30, w ∈ wsX6_heldNow := in_of [10, 11, 12] (by decide +kernel)
set_option maxRecDepth 20000 in
theorem in_X6_heldNow_6 : ∀ w ∈ wsX60, w ∈ wsX6_heldNow := in_of [13, 14, 15, 16, 17, 18, 19, 20, 21, 22] (by decide +kernel)
set_option maxRecDepth 20000 in
theorem in_X6_taken_3 : ∀ w ∈ wsX30, w ∈ wsX6_taken := in_of [48, 49, 50] (by decide +kernel)
set_option maxRecDepth 20000 in
theorem in_X6_taken_6 : ∀ w ∈ wsX60, w ∈ wsX6_taken := in_of [38, 39, 40, 41, 42, 43, 44, 45, 46, 47] (by decide +kernel)
set_option maxRecDepth 20000 in
theorem in_X0_forget_0 : ∀ w ∈ wsX00, w ∈ wsX0_forget := in_of [3, 4, 5, 6, 7, 8] (by decide +kernel)
set_option maxRecDepth 20000 in
theorem in_X0_begin_0 : ∀ w ∈ wsX00, w ∈ wsX0_begin := in_of [4, 5, 6, 7, 8, 9] (by decide +kernel)
set_option maxRecDepth 20000 in
theorem in_X0_closes_0 : ∀ w ∈ wsX00, w ∈ wsX0_closes := in_of [27, 28, 29, 30, 31, 32] (by decide +kernel)
set_option maxRecDepth 20000 in
theorem in_X0_parts_0 : ∀ w ∈ wsX00, w ∈ wsX0_parts := in_of [19, 20, 21, 22, 23, 24] (by decide +kernel)
set_option maxRecDepth 20000 in
theorem in_X0_weighs_0 : ∀ w ∈ wsX00, w ∈ wsX0_weighs := in_of [14, 15, 16, 17, 18, 19] (by decide +kernel)
set_option maxRecDepth 20000 in
theorem in_X0_turns_0 : ∀ w ∈ wsX00, w ∈ wsX0_turns := in_of [19, 20, 21, 22, 23, 24] (by decide +kernel)
set_option maxRecDepth 20000 in
theorem in_X0_run_0 : ∀ w ∈ wsX00, w ∈ wsX0_run := in_of [28, 29, 30, 31, 32, 33] (by decide +kernel)
set_option maxRecDepth 20000 in
theorem in_X6_act_0 : ∀ w ∈ wsX00, w ∈ wsX6_act := in_of [82, 83, 84, 85, 86, 87] (by decide +kernel)
set_option maxRecDepth 20000 in
theorem in_X6_act_3 : ∀ w ∈ wsX30, w ∈ wsX6_act := in_of [79, 80, 81] (by decide +kernel)
set_option maxRecDepth 20000 in
theorem in_X6_act_6 : ∀ w ∈ wsX60, w ∈ wsX6_act := in_of [69, 70, 71, 72, 73, 74, 75, 76, 77, 78] (by decide +kernel)
set_option maxRecDepth 20000 in
theorem in_X6_trace_0 : ∀ w ∈ wsX00, w ∈ wsX6_trace := in_of [14, 15, 16, 17, 18, 19] (by decide +kernel)
set_option maxRecDepth 20000 in
theorem in_X6_trace_6 : ∀ w ∈ wsX60, w ∈ wsX6_trace := in_of [4, 5, 6, 7, 8, 9, 10, 11, 12, 13] (by decide +kernel)
set_option maxRecDepth 20000 in
theorem in_X4_fittingSet_4 : ∀ w ∈ wsX40, w ∈ wsX4_fittingSet := in_of [26, 27, 28, 29, 30, 31, 32, 33, 34] (by decide +kernel)
set_option maxRecDepth 20000 in
theorem in_X4_splitSet_4 : ∀ w ∈ wsX40, w ∈ wsX4_splitSet := in_of [17, 18, 19, 20, 21, 22, 23, 24, 25] (by decide +kernel)
set_option maxRecDepth 20000 in
theorem in_X6_many_0 : ∀ w ∈ wsX00, w ∈ wsX6_many := in_of [78, 79, 80, 81, 82, 83] (by decide +kernel)
set_option maxRecDepth 20000 in
theorem in_X6_many_4 : ∀ w ∈ wsX40, w ∈ wsX6_many := in_of [66, 67, 68, 69, 70, 71, 72, 73, 74] (by decide +kernel)
set_option maxRecDepth 20000 in
theorem in_X6_many_5 : ∀ w ∈ wsX50, w ∈ wsX6_many := in_of [75, 76, 77] (by decide +kernel)
set_option maxRecDepth 20000 in
theorem in_X6_many_6 : ∀ w ∈ wsX60, w ∈ wsX6_many := in_of [56, 57, 58, 59, 60, 61, 62, 63, 64, 65] (by decide +kernel)
set_option maxRecDepth 20000 in
theorem in_X6_keep_6 : ∀ w ∈ wsX60, w ∈ wsX6_keep := in_of [22, 23, 24, 25, 26, 27, 28, 29, 30, 31] (by decide +kernel)
set_option maxRecDepth 20000 in
theorem in_X6_again_4 : ∀ w ∈ wsX40, w ∈ wsX6_again := in_of [33, 34, 35, 36, 37, 38, 39, 40, 41] (by decide +kernel)
set_option maxRecDepth 20000 in
theorem in_X6_again_6 : ∀ w ∈ wsX60, w ∈ wsX6_again := in_of [23, 24, 25, 26, 27, 28, 29, 30, 31, 32] (by decide +kernel)
set_option maxRecDepth 20000 in
theorem in_X7_size_7 : ∀ w ∈ wsX70, w ∈ wsX7_size := in_of [9, 10, 11, 12, 13, 14, 15, 16, 17, 18, 19, 20, 21, 22, 23, 24, 25, 26, 27, 28, 29, 30, 31, 32, 33, 34, 35, 36, 37, 38, 39, 40, 41, 42, 43, 44, 45, 46, 47, 48, 49, 50, 51, 52, 53, 54, 55] (by decide +kernel)
set_option maxRecDepth 20000 in
theorem in_X7_columnsOf_7 : ∀ w ∈ wsX70, w ∈ wsX7_columnsOf := in_of [3, 4, 5, 6, 7, 8, 9, 10, 11, 12, 13, 14, 15, 16, 17, 18, 19, 20, 21, 22, 23, 24, 25, 26, 27, 28, 29, 30, 31, 32, 33, 34, 35, 36, 37, 38, 39, 40, 41, 42, 43, 44, 45, 46, 47, 48, 49] (by decide +kernel)
set_option maxRecDepth 20000 in
theorem in_X7_rowsOf_7 : ∀ w ∈ wsX70, w ∈ wsX7_rowsOf := in_of [3, 4, 5, 6, 7, 8, 9, 10, 11, 12, 13, 14, 15, 16, 17, 18, 19, 20, 21, 22, 23, 24, 25, 26, 27, 28, 29, 30, 31, 32, 33, 34, 35, 36, 37, 38, 39, 40, 41, 42, 43, 44, 45, 46, 47, 48, 49] (by decide +kernel)
set_option maxRecDepth 20000 in
theorem in_X7_its_7 : ∀ w ∈ wsX70, w ∈ wsX7_its := in_of [2, 3, 4, 5, 6, 7, 8, 9, 10, 11, 12, 13, 14, 15, 16, 17, 18, 19, 20, 21, 22, 23, 24, 25, 26, 27, 28, 29, 30, 31, 32, 33, 34, 35, 36, 37, 38, 39, 40, 41, 42, 43, 44, 45, 46, 47, 48] (by decide +kernel)
set_option maxRecDepth 20000 in
theorem in_X7_set_7 : ∀ w ∈ wsX70, w ∈ wsX7_set := in_of [32, 33, 34, 35, 36, 37, 38, 39, 40, 41, 42, 43, 44, 45, 46, 47, 48, 49, 50, 51, 52, 53, 54, 55, 56, 57, 58, 59, 60, 61, 62, 63, 64, 65, 66, 67, 68, 69, 70, 71, 72, 73, 74, 75, 76, 77, 78] (by decide +kernel)
set_option maxRecDepth 20000 in
theorem in_X7_diagonal_7 : ∀ w ∈ wsX70, w ∈ wsX7_diagonal := in_of [25, 26, 27, 28, 29, 30, 31, 32, 33, 34, 35, 36, 37, 38, 39, 40, 41, 42, 43, 44, 45, 46, 47, 48, 49, 50, 51, 52, 53, 54, 55, 56, 57, 58, 59, 60, 61, 62, 63, 64, 65, 66, 67, 68, 69, 70, 71] (by decide +kernel)
set_option maxRecDepth 20000 in
theorem in_X7_feed_7 : ∀ w ∈ wsX70, w ∈ wsX7_feed := in_of [8, 9, 10, 11, 12, 13, 14, 15, 16, 17, 18, 19, 20, 21, 22, 23, 24, 25, 26, 27, 28, 29, 30, 31, 32, 33, 34, 35, 36, 37, 38, 39, 40, 41, 42, 43, 44, 45, 46, 47, 48, 49, 50, 51, 52, 53, 54] (by decide +kernel)
set_option maxRecDepth 20000 in
theorem in_X7_next_7 : ∀ w ∈ wsX70, w ∈ wsX7_next := in_of [12, 13, 14, 15, 16, 17, 18, 19, 20, 21, 22, 23, 24, 25, 26, 27, 28, 29, 30, 31, 32, 33, 34, 35, 36, 37, 38, 39, 40, 41, 42, 43, 44, 45, 46, 47, 48, 49, 50, 51, 52, 53, 54, 55, 56, 57, 58] (by decide +kernel)
set_option maxRecDepth 20000 in
theorem in_X7_fails_7 : ∀ w ∈ wsX70, w ∈ wsX7_fails := in_of [3, 4, 5, 6, 7, 8, 9, 10, 11, 12, 13, 14, 15, 16, 17, 18, 19, 20, 21, 22, 23, 24, 25, 26, 27, 28, 29, 30, 31, 32, 33, 34, 35, 36, 37, 38, 39, 40, 41, 42, 43, 44, 45, 46, 47, 48, 49] (by decide +kernel)
set_option maxRecDepth 20000 in
theorem in_X7_is_7 : ∀ w ∈ wsX70, w ∈ wsX7_is := in_of [4, 5, 6, 7, 8, 9, 10, 11, 12, 13, 14, 15, 16, 17, 18, 19, 20, 21, 22, 23, 24, 25, 26, 27, 28, 29, 30, 31, 32, 33, 34, 35, 36, 37, 38, 39, 40, 41, 42, 43, 44, 45, 46, 47, 48, 49, 50] (by decide +kernel)
set_option maxRecDepth 20000 in
theorem in_X7_entryOf_7 : ∀ w ∈ wsX70, w ∈ wsX7_entryOf := in_of [36, 37, 38, 39, 40, 41, 42, 43, 44, 45, 46, 47, 48, 49, 50, 51, 52, 53, 54, 55, 56, 57, 58, 59, 60, 61, 62, 63, 64, 65, 66, 67, 68, 69, 70, 71, 72, 73, 74, 75, 76, 77, 78, 79, 80, 81, 82] (by decide +kernel)
set_option maxRecDepth 20000 in
theorem in_X7_table_7 : ∀ w ∈ wsX70, w ∈ wsX7_table := in_of [51, 52, 53, 54, 55, 56, 57, 58, 59, 60, 61, 62, 63, 64, 65, 66, 67, 68, 69, 70, 71, 72, 73, 74, 75, 76, 77, 78, 79, 80, 81, 82, 83, 84, 85, 86, 87, 88, 89, 90, 91, 92, 93, 94, 95, 96, 97] (by decide +kernel)
set_option maxRecDepth 20000 in
theorem in_X7_text_7 : ∀ w ∈ wsX70, w ∈ wsX7_text := in_of [60, 61, 62, 63, 64, 65, 66, 67, 68, 69, 70, 71, 72, 73, 74, 75, 76, 77, 78, 79, 80, 81, 82, 83, 84, 85, 86, 87, 88, 89, 90, 91, 92, 93, 94, 95, 96, 97, 98, 99, 100, 101, 102, 103, 104, 105, 106] (by decide +kernel)
set_option maxRecDepth 20000 in
theorem in_X7_equation_7 : ∀ w ∈ wsX70, w ∈ wsX7_equation := in_of [14, 15, 16, 17, 18, 19, 20, 21, 22, 23, 24, 25, 26, 27, 28, 29, 30, 31, 32, 33, 34, 35, 36, 37, 38, 39, 40, 41, 42, 43, 44, 45, 46, 47, 48, 49, 50, 51, 52, 53, 54, 55, 56, 57, 58, 59, 60] (by decide +kernel)
set_option maxRecDepth 20000 in
theorem in_X7_freeOnes_7 : ∀ w ∈ wsX70, w ∈ wsX7_freeOnes := in_of [3, 4, 5, 6, 7, 8, 9, 10, 11, 12, 13, 14, 15, 16, 17, 18, 19, 20, 21, 22, 23, 24, 25, 26, 27, 28, 29, 30, 31, 32, 33, 34, 35, 36, 37, 38, 39, 40, 41, 42, 43, 44, 45, 46, 47, 48, 49] (by decide +kernel)
set_option maxRecDepth 20000 in
theorem in_X7_isEquation_7 : ∀ w ∈ wsX70, w ∈ wsX7_isEquation := in_of [6, 7, 8, 9, 10, 11, 12, 13, 14, 15, 16, 17, 18, 19, 20, 21, 22, 23, 24, 25, 26, 27, 28, 29, 30, 31, 32, 33, 34, 35, 36, 37, 38, 39, 40, 41, 42, 43, 44, 45, 46, 47, 48, 49, 50, 51, 52] (by decide +kernel)
set_option maxRecDepth 20000 in
theorem in_X7_isLike_7 : ∀ w ∈ wsX70, w ∈ wsX7_isLike := in_of [3, 4, 5, 6, 7, 8, 9, 10, 11, 12, 13, 14, 15, 16, 17, 18, 19, 20, 21, 22, 23, 24, 25, 26, 27, 28, 29, 30, 31, 32, 33, 34, 35, 36, 37, 38, 39, 40, 41, 42, 43, 44, 45, 46, 47, 48, 49] (by decide +kernel)
set_option maxRecDepth 20000 in
theorem in_X7_unknownsOf_7 : ∀ w ∈ wsX70, w ∈ wsX7_unknownsOf := in_of [8, 9, 10, 11, 12, 13, 14, 15, 16, 17, 18, 19, 20, 21, 22, 23, 24, 25, 26, 27, 28, 29, 30, 31, 32, 33, 34, 35, 36, 37, 38, 39, 40, 41, 42, 43, 44, 45, 46, 47, 48, 49, 50, 51, 52, 53, 54] (by decide +kernel)
set_option maxRecDepth 20000 in
theorem in_X7_isSolved_7 : ∀ w ∈ wsX70, w ∈ wsX7_isSolved := in_of [5, 6, 7, 8, 9, 10, 11, 12, 13, 14, 15, 16, 17, 18, 19, 20, 21, 22, 23, 24, 25, 26, 27, 28, 29, 30, 31, 32, 33, 34, 35, 36, 37, 38, 39, 40, 41, 42, 43, 44, 45, 46, 47, 48, 49, 50, 51] (by decide +kernel)
set_option maxRecDepth 20000 in
theorem in_X7_takenBy_7 : ∀ w ∈ wsX70, w ∈ wsX7_takenBy := in_of [21, 22, 23, 24, 25, 26, 27, 28, 29, 30, 31, 32, 33, 34, 35, 36, 37, 38, 39, 40, 41, 42, 43, 44, 45, 46, 47, 48, 49, 50, 51, 52, 53, 54, 55, 56, 57, 58, 59, 60, 61, 62, 63, 64, 65, 66, 67] (by decide +kernel)
set_option maxRecDepth 20000 in
theorem in_X7_clears_7 : ∀ w ∈ wsX70, w ∈ wsX7_clears := in_of [5, 6, 7, 8, 9, 10, 11, 12, 13, 14, 15, 16, 17, 18, 19, 20, 21, 22, 23, 24, 25, 26, 27, 28, 29, 30, 31, 32, 33, 34, 35, 36, 37, 38, 39, 40, 41, 42, 43, 44, 45, 46, 47, 48, 49, 50, 51] (by decide +kernel)
set_option maxRecDepth 20000 in
theorem in_X7_swaps_7 : ∀ w ∈ wsX70, w ∈ wsX7_swaps := in_of [4, 5, 6, 7, 8, 9, 10, 11, 12, 13, 14, 15, 16, 17, 18, 19, 20, 21, 22, 23, 24, 25, 26, 27, 28, 29, 30, 31, 32, 33, 34, 35, 36, 37, 38, 39, 40, 41, 42, 43, 44, 45, 46, 47, 48, 49, 50] (by decide +kernel)
set_option maxRecDepth 20000 in
theorem in_X7_works_7 : ∀ w ∈ wsX70, w ∈ wsX7_works := in_of [18, 19, 20, 21, 22, 23, 24, 25, 26, 27, 28, 29, 30, 31, 32, 33, 34, 35, 36, 37, 38, 39, 40, 41, 42, 43, 44, 45, 46, 47, 48, 49, 50, 51, 52, 53, 54, 55, 56, 57, 58, 59, 60, 61, 62, 63, 64] (by decide +kernel)
set_option maxRecDepth 20000 in
theorem in_X7_sets_7 : ∀ w ∈ wsX70, w ∈ wsX7_sets := in_of [52, 53, 54, 55, 56, 57, 58, 59, 60, 61, 62, 63, 64, 65, 66, 67, 68, 69, 70, 71, 72, 73, 74, 75, 76, 77, 78, 79, 80, 81, 82, 83, 84, 85, 86, 87, 88, 89, 90, 91, 92, 93, 94, 95, 96, 97, 98] (by decide +kernel)
set_option maxRecDepth 20000 in
theorem in_X7_setsUp_7 : ∀ w ∈ wsX70, w ∈ wsX7_setsUp := in_of [58, 59, 60, 61, 62, 63, 64, 65, 66, 67, 68, 69, 70, 71, 72, 73, 74, 75, 76, 77, 78, 79, 80, 81, 82, 83, 84, 85, 86, 87, 88, 89, 90, 91, 92, 93, 94, 95, 96, 97, 98, 99, 100, 101, 102, 103, 104] (by decide +kernel)
set_option maxRecDepth 20000 in
theorem in_X7_of_7 : ∀ w ∈ wsX70, w ∈ wsX7_of := in_of [87, 88, 89, 90, 91, 92, 93, 94, 95, 96, 97, 98, 99, 100, 101, 102, 103, 104, 105, 106, 107, 108, 109, 110, 111, 112, 113, 114, 115, 116, 117, 118, 119, 120, 121, 122, 123, 124, 125, 126, 127, 128, 129, 130, 131, 132, 133] (by decide +kernel)
set_option maxRecDepth 20000 in
theorem in_X7_change_7 : ∀ w ∈ wsX70, w ∈ wsX7_change := in_of [18, 19, 20, 21, 22, 23, 24, 25, 26, 27, 28, 29, 30, 31, 32, 33, 34, 35, 36, 37, 38, 39, 40, 41, 42, 43, 44, 45, 46, 47, 48, 49, 50, 51, 52, 53, 54, 55, 56, 57, 58, 59, 60, 61, 62, 63, 64] (by decide +kernel)
set_option maxRecDepth 20000 in
theorem in_X7_right_7 : ∀ w ∈ wsX70, w ∈ wsX7_right := in_of [30, 31, 32, 33, 34, 35, 36, 37, 38, 39, 40, 41, 42, 43, 44, 45, 46, 47, 48, 49, 50, 51, 52, 53, 54, 55, 56, 57, 58, 59, 60, 61, 62, 63, 64, 65, 66, 67, 68, 69, 70, 71, 72, 73, 74, 75, 76] (by decide +kernel)
set_option maxRecDepth 20000 in
theorem in_X7_isPart_7 : ∀ w ∈ wsX70, w ∈ wsX7_isPart := in_of [12, 13, 14, 15, 16, 17, 18, 19, 20, 21, 22, 23, 24, 25, 26, 27, 28, 29, 30, 31, 32, 33, 34, 35, 36, 37, 38, 39, 40, 41, 42, 43, 44, 45, 46, 47, 48, 49, 50, 51, 52, 53, 54, 55, 56, 57, 58] (by decide +kernel)
set_option maxRecDepth 20000 in
theorem in_X7_shapedSum_7 : ∀ w ∈ wsX70, w ∈ wsX7_shapedSum := in_of [11, 12, 13, 14, 15, 16, 17, 18, 19, 20, 21, 22, 23, 24, 25, 26, 27, 28, 29, 30, 31, 32, 33, 34, 35, 36, 37, 38, 39, 40, 41, 42, 43, 44, 45, 46, 47, 48, 49, 50, 51, 52, 53, 54, 55, 56, 57] (by decide +kernel)
set_option maxRecDepth 20000 in
theorem in_X7_solution_7 : ∀ w ∈ wsX70, w ∈ wsX7_solution := in_of [100, 101, 102, 103, 104, 105, 106, 107, 108, 109, 110, 111, 112, 113, 114, 115, 116, 117, 118, 119, 120, 121, 122, 123, 124, 125, 126, 127, 128, 129, 130, 131, 132, 133, 134, 135, 136, 137, 138, 139, 140, 141, 142, 143, 144, 145, 146] (by decide +kernel)
set_option maxRecDepth 20000 in
theorem in_X7_base_7 : ∀ w ∈ wsX70, w ∈ wsX7_base := in_of [97, 98, 99, 100, 101, 102, 103, 104, 105, 106, 107, 108, 109, 110, 111, 112, 113, 114, 115, 116, 117, 118, 119, 120, 121, 122, 123, 124, 125, 126, 127, 128, 129, 130, 131, 132, 133, 134, 135, 136, 137, 138, 139, 140, 141, 142, 143] (by decide +kernel)
set_option maxRecDepth 20000 in
theorem in_X7_clearsRules_7 : ∀ w ∈ wsX70, w ∈ wsX7_clearsRules := in_of [2, 3, 4, 5, 6, 7, 8, 9, 10, 11, 12, 13, 14, 15, 16, 17, 18, 19, 20, 21, 22, 23, 24, 25, 26, 27, 28, 29, 30, 31, 32, 33, 34, 35, 36, 37, 38, 39, 40, 41, 42, 43, 44, 45, 46, 47, 48] (by decide +kernel)
set_option maxRecDepth 20000 in
theorem in_X7_swapsRules_7 : ∀ w ∈ wsX70, w ∈ wsX7_swapsRules := in_of [2, 3, 4, 5, 6, 7, 8, 9, 10, 11, 12, 13, 14, 15, 16, 17, 18, 19, 20, 21, 22, 23, 24, 25, 26, 27, 28, 29, 30, 31, 32, 33, 34, 35, 36, 37, 38, 39, 40, 41, 42, 43, 44, 45, 46, 47, 48] (by decide +kernel)
set_option maxRecDepth 20000 in
theorem in_X7_worksRules_7 : ∀ w ∈ wsX70, w ∈ wsX7_worksRules := in_of [43, 44, 45, 46, 47, 48, 49, 50, 51, 52, 53, 54, 55, 56, 57, 58, 59, 60, 61, 62, 63, 64, 65, 66, 67, 68, 69, 70, 71, 72, 73, 74, 75, 76, 77, 78, 79, 80, 81, 82, 83, 84, 85, 86, 87, 88, 89] (by decide +kernel)
set_option maxRecDepth 20000 in
theorem in_X7_witness_7 : ∀ w ∈ wsX70, w ∈ wsX7_witness := in_of [79, 80, 81, 82, 83, 84, 85, 86, 87, 88, 89, 90, 91, 92, 93, 94, 95, 96, 97, 98, 99, 100, 101, 102, 103, 104, 105, 106, 107, 108, 109, 110, 111, 112, 113, 114, 115, 116, 117, 118, 119, 120, 121, 122, 123, 124, 125] (by decide +kernel)
set_option maxRecDepth 20000 in
theorem in_X7_isSmall_7 : ∀ w ∈ wsX70, w ∈ wsX7_isSmall := in_of [9, 10, 11, 12, 13, 14, 15, 16, 17, 18, 19, 20, 21, 22, 23, 24, 25, 26, 27, 28, 29, 30, 31, 32, 33, 34, 35, 36, 37, 38, 39, 40, 41, 42, 43, 44, 45, 46, 47, 48, 49, 50, 51, 52, 53, 54, 55] (by decide +kernel)
set_option maxRecDepth 20000 in
theorem in_X7_similar_7 : ∀ w ∈ wsX70, w ∈ wsX7_similar := in_of [78, 79, 80, 81, 82, 83, 84, 85, 86, 87, 88, 89, 90, 91, 92, 93, 94, 95, 96, 97, 98, 99, 100, 101, 102, 103, 104, 105, 106, 107, 108, 109, 110, 111, 112, 113, 114, 115, 116, 117, 118, 119, 120, 121, 122, 123, 124] (by decide +kernel)
set_option maxRecDepth 20000 in
theorem in_X7_whole_7 : ∀ w ∈ wsX70, w ∈ wsX7_whole := in_of [78, 79, 80, 81, 82, 83, 84, 85, 86, 87, 88, 89, 90, 91, 92, 93, 94, 95, 96, 97, 98, 99, 100, 101, 102, 103, 104, 105, 106, 107, 108, 109, 110, 111, 112, 113, 114, 115, 116, 117, 118, 119, 120, 121, 122, 123, 124] (by decide +kernel)
set_option maxRecDepth 20000 in
theorem in_X7_splits_7 : ∀ w ∈ wsX70, w ∈ wsX7_splits := in_of [8, 9, 10, 11, 12, 13, 14, 15, 16, 17, 18, 19, 20, 21, 22, 23, 24, 25, 26, 27, 28, 29, 30, 31, 32, 33, 34, 35, 36, 37, 38, 39, 40, 41, 42, 43, 44, 45, 46, 47, 48, 49, 50, 51, 52, 53, 54] (by decide +kernel)
set_option maxRecDepth 20000 in
theorem in_X7_lower_7 : ∀ w ∈ wsX70, w ∈ wsX7_lower := in_of [79, 80, 81, 82, 83, 84, 85, 86, 87, 88, 89, 90, 91, 92, 93, 94, 95, 96, 97, 98, 99, 100, 101, 102, 103, 104, 105, 106, 107, 108, 109, 110, 111, 112, 113, 114, 115, 116, 117, 118, 119, 120, 121, 122, 123, 124, 125] (by decide +kernel)
set_option maxRecDepth 20000 in
theorem in_X7_swapped_7 : ∀ w ∈ wsX70, w ∈ wsX7_swapped := in_of [17, 18, 19, 20, 21, 22, 23, 24, 25, 26, 27, 28, 29, 30, 31, 32, 33, 34, 35, 36, 37, 38, 39, 40, 41, 42, 43, 44, 45, 46, 47, 48, 49, 50, 51, 52, 53, 54, 55, 56, 57, 58, 59, 60, 61, 62, 63] (by decide +kernel)
set_option maxRecDepth 20000 in
theorem in_X7_stable_7 : ∀ w ∈ wsX70, w ∈ wsX7_stable := in_of [29, 30, 31, 32, 33, 34, 35, 36, 37, 38, 39, 40, 41, 42, 43, 44, 45, 46, 47, 48, 49, 50, 51, 52, 53, 54, 55, 56, 57, 58, 59, 60, 61, 62, 63, 64, 65, 66, 67, 68, 69, 70, 71, 72, 73, 74, 75] (by decide +kernel)
set_option maxRecDepth 20000 in
theorem in_X7_leastScale_7 : ∀ w ∈ wsX70, w ∈ wsX7_leastScale := in_of [22, 23, 24, 25, 26, 27, 28, 29, 30, 31, 32, 33, 34, 35, 36, 37, 38, 39, 40, 41, 42, 43, 44, 45, 46, 47, 48, 49, 50, 51, 52, 53, 54, 55, 56, 57, 58, 59, 60, 61, 62, 63, 64, 65, 66, 67, 68] (by decide +kernel)
set_option maxRecDepth 20000 in
theorem in_X7_lay_7 : ∀ w ∈ wsX70, w ∈ wsX7_lay := in_of [103, 104, 105, 106, 107, 108, 109, 110, 111, 112, 113, 114, 115, 116, 117, 118, 119, 120, 121, 122, 123, 124, 125, 126, 127, 128, 129, 130, 131, 132, 133, 134, 135, 136, 137, 138, 139, 140, 141, 142, 143, 144, 145, 146, 147, 148, 149] (by decide +kernel)
set_option maxRecDepth 20000 in
theorem in_X7_against_7 : ∀ w ∈ wsX70, w ∈ wsX7_against := in_of [5, 6, 7, 8, 9, 10, 11, 12, 13, 14, 15, 16, 17, 18, 19, 20, 21, 22, 23, 24, 25, 26, 27, 28, 29, 30, 31, 32, 33, 34, 35, 36, 37, 38, 39, 40, 41, 42, 43, 44, 45, 46, 47, 48, 49, 50, 51] (by decide +kernel)
set_option maxRecDepth 20000 in
theorem in_X7_firstOff_7 : ∀ w ∈ wsX70, w ∈ wsX7_firstOff := in_of [18, 19, 20, 21, 22, 23, 24, 25, 26, 27, 28, 29, 30, 31, 32, 33, 34, 35, 36, 37, 38, 39, 40, 41, 42, 43, 44, 45, 46, 47, 48, 49, 50, 51, 52, 53, 54, 55, 56, 57, 58, 59, 60, 61, 62, 63, 64] (by decide +kernel)
set_option maxRecDepth 20000 in
theorem in_X7_isShaped_7 : ∀ w ∈ wsX70, w ∈ wsX7_isShaped := in_of [4, 5, 6, 7, 8, 9, 10, 11, 12, 13, 14, 15, 16, 17, 18, 19, 20, 21, 22, 23, 24, 25, 26, 27, 28, 29, 30, 31, 32, 33, 34, 35, 36, 37, 38, 39, 40, 41, 42, 43, 44, 45, 46, 47, 48, 49, 50] (by decide +kernel)
set_option maxRecDepth 20000 in
theorem in_X7_judge_7 : ∀ w ∈ wsX70, w ∈ wsX7_judge := in_of [50, 51, 52, 53, 54, 55, 56, 57, 58, 59, 60, 61, 62, 63, 64, 65, 66, 67, 68, 69, 70, 71, 72, 73, 74, 75, 76, 77, 78, 79, 80, 81, 82, 83, 84, 85, 86, 87, 88, 89, 90, 91, 92, 93, 94, 95, 96] (by decide +kernel)
set_option maxRecDepth 20000 in
theorem in_X7_kinds_7 : ∀ w ∈ wsX70, w ∈ wsX7_kinds := in_of [45, 46, 47, 48, 49, 50, 51, 52, 53, 54, 55, 56, 57, 58, 59, 60, 61, 62, 63, 64, 65, 66, 67, 68, 69, 70, 71, 72, 73, 74, 75, 76, 77, 78, 79, 80, 81, 82, 83, 84, 85, 86, 87, 88, 89, 90, 91] (by decide +kernel)
set_option maxRecDepth 20000 in
theorem in_X7_seed_7 : ∀ w ∈ wsX70, w ∈ wsX7_seed := in_of [2, 3, 4, 5, 6, 7, 8, 9, 10, 11, 12, 13, 14, 15, 16, 17, 18, 19, 20, 21, 22, 23, 24, 25, 26, 27, 28, 29, 30, 31, 32, 33, 34, 35, 36, 37, 38, 39, 40, 41, 42, 43, 44, 45, 46, 47, 48] (by decide +kernel)
set_option maxRecDepth 20000 in
theorem in_X7_lots_7 : ∀ w ∈ wsX70, w ∈ wsX7_lots := in_of [15, 16, 17, 18, 19, 20, 21, 22, 23, 24, 25, 26, 27, 28, 29, 30, 31, 32, 33, 34, 35, 36, 37, 38, 39, 40, 41, 42, 43, 44, 45, 46, 47, 48, 49, 50, 51, 52, 53, 54, 55, 56, 57, 58, 59, 60, 61] (by decide +kernel)
set_option maxRecDepth 20000 in
theorem in_X7_times_7 : ∀ w ∈ wsX70, w ∈ wsX7_times := in_of [102, 103, 104, 105, 106, 107, 108, 109, 110, 111, 112, 113, 114, 115, 116, 117, 118, 119, 120, 121, 122, 123, 124, 125, 126, 127, 128, 129, 130, 131, 132, 133, 134, 135, 136, 137, 138, 139, 140, 141, 142, 143, 144, 145, 146, 147, 148] (by decide +kernel)
set_option maxRecDepth 20000 in
theorem in_X7_sheet_7 : ∀ w ∈ wsX70, w ∈ wsX7_sheet := in_of [13, 14, 15, 16, 17, 18, 19, 20, 21, 22, 23, 24, 25, 26, 27, 28, 29, 30, 31, 32, 33, 34, 35, 36, 37, 38, 39, 40, 41, 42, 43, 44, 45, 46, 47, 48, 49, 50, 51, 52, 53, 54, 55, 56, 57, 58, 59] (by decide +kernel)
set_option maxRecDepth 20000 in
theorem in_X7_put_7 : ∀ w ∈ wsX70, w ∈ wsX7_put := in_of [15, 16, 17, 18, 19, 20, 21, 22, 23, 24, 25, 26, 27, 28, 29, 30, 31, 32, 33, 34, 35, 36, 37, 38, 39, 40, 41, 42, 43, 44, 45, 46, 47, 48, 49, 50, 51, 52, 53, 54, 55, 56, 57, 58, 59, 60, 61] (by decide +kernel)
set_option maxRecDepth 20000 in
theorem in_X7_item_7 : ∀ w ∈ wsX70, w ∈ wsX7_item := in_of [12, 13, 14, 15, 16, 17, 18, 19, 20, 21, 22, 23, 24, 25, 26, 27, 28, 29, 30, 31, 32, 33, 34, 35, 36, 37, 38, 39, 40, 41, 42, 43, 44, 45, 46, 47, 48, 49, 50, 51, 52, 53, 54, 55, 56, 57, 58] (by decide +kernel)
set_option maxRecDepth 20000 in
theorem in_X7_move_7 : ∀ w ∈ wsX70, w ∈ wsX7_move := in_of [13, 14, 15, 16, 17, 18, 19, 20, 21, 22, 23, 24, 25, 26, 27, 28, 29, 30, 31, 32, 33, 34, 35, 36, 37, 38, 39, 40, 41, 42, 43, 44, 45, 46, 47, 48, 49, 50, 51, 52, 53, 54, 55, 56, 57, 58, 59] (by decide +kernel)
set_option maxRecDepth 20000 in
theorem in_X7_shelf_7 : ∀ w ∈ wsX70, w ∈ wsX7_shelf := in_of [23, 24, 25, 26, 27, 28, 29, 30, 31, 32, 33, 34, 35, 36, 37, 38, 39, 40, 41, 42, 43, 44, 45, 46, 47, 48, 49, 50, 51, 52, 53, 54, 55, 56, 57, 58, 59, 60, 61, 62, 63, 64, 65, 66, 67, 68, 69] (by decide +kernel)
set_option maxRecDepth 20000 in
theorem in_X7_heldBy_7 : ∀ w ∈ wsX70, w ∈ wsX7_heldBy := in_of [12, 13, 14, 15, 16, 17, 18, 19, 20, 21, 22, 23, 24, 25, 26, 27, 28, 29, 30, 31, 32, 33, 34, 35, 36, 37, 38, 39, 40, 41, 42, 43, 44, 45, 46, 47, 48, 49, 50, 51, 52, 53, 54, 55, 56, 57, 58] (by decide +kernel)
set_option maxRecDepth 20000 in
theorem in_X7_taken_7 : ∀ w ∈ wsX70, w ∈ wsX7_taken := in_of [31, 32, 33, 34, 35, 36, 37, 38, 39, 40, 41, 42, 43, 44, 45, 46, 47, 48, 49, 50, 51, 52, 53, 54, 55, 56, 57, 58, 59, 60, 61, 62, 63, 64, 65, 66, 67, 68, 69, 70, 71, 72, 73, 74, 75, 76, 77] (by decide +kernel)
set_option maxRecDepth 20000 in
theorem in_X7_ran_7 : ∀ w ∈ wsX70, w ∈ wsX7_ran := in_of [3, 4, 5, 6, 7, 8, 9, 10, 11, 12, 13, 14, 15, 16, 17, 18, 19, 20, 21, 22, 23, 24, 25, 26, 27, 28, 29, 30, 31, 32, 33, 34, 35, 36, 37, 38, 39, 40, 41, 42, 43, 44, 45, 46, 47, 48, 49] (by decide +kernel)
set_option maxRecDepth 20000 in
theorem in_X7_plainWeighs_7 : ∀ w ∈ wsX70, w ∈ wsX7_plainWeighs := in_of [9, 10, 11, 12, 13, 14, 15, 16, 17, 18, 19, 20, 21, 22, 23, 24, 25, 26, 27, 28, 29, 30, 31, 32, 33, 34, 35, 36, 37, 38, 39, 40, 41, 42, 43, 44, 45, 46, 47, 48, 49, 50, 51, 52, 53, 54, 55] (by decide +kernel)
set_option maxRecDepth 20000 in
theorem in_X7_weighs_7 : ∀ w ∈ wsX70, w ∈ wsX7_weighs := in_of [19, 20, 21, 22, 23, 24, 25, 26, 27, 28, 29, 30, 31, 32, 33, 34, 35, 36, 37, 38, 39, 40, 41, 42, 43, 44, 45, 46, 47, 48, 49, 50, 51, 52, 53, 54, 55, 56, 57, 58, 59, 60, 61, 62, 63, 64, 65] (by decide +kernel)
set_option maxRecDepth 20000 in
theorem in_X7_parts_7 : ∀ w ∈ wsX70, w ∈ wsX7_parts := in_of [24, 25, 26, 27, 28, 29, 30, 31, 32, 33, 34, 35, 36, 37, 38, 39, 40, 41, 42, 43, 44, 45, 46, 47, 48, 49, 50, 51, 52, 53, 54, 55, 56, 57, 58, 59, 60, 61, 62, 63, 64, 65, 66, 67, 68, 69, 70] (by decide +kernel)
set_option maxRecDepth 20000 in
theorem in_X7_plainTurns_7 : ∀ w ∈ wsX70, w ∈ wsX7_plainTurns := in_of [23, 24, 25, 26, 27, 28, 29, 30, 31, 32, 33, 34, 35, 36, 37, 38, 39, 40, 41, 42, 43, 44, 45, 46, 47, 48, 49, 50, 51, 52, 53, 54, 55, 56, 57, 58, 59, 60, 61, 62, 63, 64, 65, 66, 67, 68, 69] (by decide +kernel)
set_option maxRecDepth 20000 in
theorem in_X7_turns_7 : ∀ w ∈ wsX70, w ∈ wsX7_turns := in_of [31, 32, 33, 34, 35, 36, 37, 38, 39, 40, 41, 42, 43, 44, 45, 46, 47, 48, 49, 50, 51, 52, 53, 54, 55, 56, 57, 58, 59, 60, 61, 62, 63, 64, 65, 66, 67, 68, 69, 70, 71, 72, 73, 74, 75, 76, 77] (by decide +kernel)
set_option maxRecDepth 20000 in
theorem in_X7_evenCloses_7 : ∀ w ∈ wsX70, w ∈ wsX7_evenCloses := in_of [44, 45, 46, 47, 48, 49, 50, 51, 52, 53, 54, 55, 56, 57, 58, 59, 60, 61, 62, 63, 64, 65, 66, 67, 68, 69, 70, 71, 72, 73, 74, 75, 76, 77, 78, 79, 80, 81, 82, 83, 84, 85, 86, 87, 88, 89, 90] (by decide +kernel)
set_option maxRecDepth 20000 in
theorem in_X7_closes_7 : ∀ w ∈ wsX70, w ∈ wsX7_closes := in_of [48, 49, 50, 51, 52, 53, 54, 55, 56, 57, 58, 59, 60, 61, 62, 63, 64, 65, 66, 67, 68, 69, 70, 71, 72, 73, 74, 75, 76, 77, 78, 79, 80, 81, 82, 83, 84, 85, 86, 87, 88, 89, 90, 91, 92, 93, 94] (by decide +kernel)
set_option maxRecDepth 20000 in
theorem in_X7_act_7 : ∀ w ∈ wsX70, w ∈ wsX7_act := in_of [72, 73, 74, 75, 76, 77, 78, 79, 80, 81, 82, 83, 84, 85, 86, 87, 88, 89, 90, 91, 92, 93, 94, 95, 96, 97, 98, 99, 100, 101, 102, 103, 104, 105, 106, 107, 108, 109, 110, 111, 112, 113, 114, 115, 116, 117, 118] (by decide +kernel)
set_option maxRecDepth 20000 in
theorem in_X7_trace_7 : ∀ w ∈ wsX70, w ∈ wsX7_trace := in_of [7, 8, 9, 10, 11, 12, 13, 14, 15, 16, 17, 18, 19, 20, 21, 22, 23, 24, 25, 26, 27, 28, 29, 30, 31, 32, 33, 34, 35, 36, 37, 38, 39, 40, 41, 42, 43, 44, 45, 46, 47, 48, 49, 50, 51, 52, 53] (by decide +kernel)
set_option maxRecDepth 20000 in
theorem in_X7_fitting_7 : ∀ w ∈ wsX70, w ∈ wsX7_fitting := in_of [22, 23, 24, 25, 26, 27, 28, 29, 30, 31, 32, 33, 34, 35, 36, 37, 38, 39, 40, 41, 42, 43, 44, 45, 46, 47, 48, 49, 50, 51, 52, 53, 54, 55, 56, 57, 58, 59, 60, 61, 62, 63, 64, 65, 66, 67, 68] (by decide +kernel)
set_option maxRecDepth 20000 in
theorem in_X7_splitting_7 : ∀ w ∈ wsX70, w ∈ wsX7_splitting := in_of [12, 13, 14, 15, 16, 17, 18, 19, 20, 21, 22, 23, 24, 25, 26, 27, 28, 29, 30, 31, 32, 33, 34, 35, 36, 37, 38, 39, 40, 41, 42, 43, 44, 45, 46, 47, 48, 49, 50, 51, 52, 53, 54, 55, 56, 57, 58] (by decide +kernel)
set_option maxRecDepth 20000 in
theorem in_X7_many_7 : ∀ w ∈ wsX70, w ∈ wsX7_many := in_of [41, 42, 43, 44, 45, 46, 47, 48, 49, 50, 51, 52, 53, 54, 55, 56, 57, 58, 59, 60, 61, 62, 63, 64, 65, 66, 67, 68, 69, 70, 71, 72, 73, 74, 75, 76, 77, 78, 79, 80, 81, 82, 83, 84, 85, 86, 87] (by decide +kernel)
set_option maxRecDepth 20000 in
theorem in_X7_keep_7 : ∀ w ∈ wsX70, w ∈ wsX7_keep := in_of [21, 22, 23, 24, 25, 26, 27, 28, 29, 30, 31, 32, 33, 34, 35, 36, 37, 38, 39, 40, 41, 42, 43, 44, 45, 46, 47, 48, 49, 50, 51, 52, 53, 54, 55, 56, 57, 58, 59, 60, 61, 62, 63, 64, 65, 66, 67] (by decide +kernel)
set_option maxRecDepth 20000 in
theorem in_X7_again_7 : ∀ w ∈ wsX70, w ∈ wsX7_again := in_of [21, 22, 23, 24, 25, 26, 27, 28, 29, 30, 31, 32, 33, 34, 35, 36, 37, 38, 39, 40, 41, 42, 43, 44, 45, 46, 47, 48, 49, 50, 51, 52, 53, 54, 55, 56, 57, 58, 59, 60, 61, 62, 63, 64, 65, 66, 67] (by decide +kernel)

abbrev rm_J7_fill_53178 : Room := { frames := 0, cells := 0, slots := 0, locals := 0 }
theorem hdJ7_fill_53178 : yJ7_fill_53178.cls ≠ "java/lang/invoke/MethodHandle" ∧ yJ7_fill_53178.cls ≠ "java/lang/invoke/VarHandle" ∧ (parseMethodDescriptor yJ7_fill_53178.desc).map (fun d => d.parameters.length) = some 2 := by decide +kernel
abbrev rm_X4_resize : Room := { frames := 1, cells := 0, slots := 0, locals := 23 }
theorem hdX4_resize : yX4_resize.cls = RX4 ∧ yX4_resize.cls ≠ "java/lang/invoke/MethodHandle" ∧ yX4_resize.cls ≠ "java/lang/invoke/VarHandle" ∧ (parseMethodDescriptor yX4_resize.desc).map (fun d => d.parameters.length) = some 2 := by decide +kernel
abbrev rm_X6_size : Room := { frames := 2, cells := 0, slots := 0, locals := 45 }
theorem hdX6_size : yX6_size.cls = RX6 ∧ yX6_size.cls ≠ "java/lang/invoke/MethodHandle" ∧ yX6_size.cls ≠ "java/lang/invoke/VarHandle" ∧ (parseMethodDescriptor yX6_size.desc).map (fun d => d.parameters.length) = some 2 := by decide +kernel
abbrev rm_X4_isRoom : Room := { frames := 0, cells := 0, slots := 0, locals := 0 }
theorem hdX4_isRoom : yX4_isRoom.cls ≠ "java/lang/invoke/MethodHandle" ∧ yX4_isRoom.cls ≠ "java/lang/invoke/VarHandle" ∧ (parseMethodDescriptor yX4_isRoom.desc).map (fun d => d.parameters.length) = some 2 := by decide +kernel
abbrev rm_X4_entry : Room := { frames := 1, cells := 0, slots := 0, locals := 21 }
theorem hdX4_entry : yX4_entry.cls = RX4 ∧ yX4_entry.cls ≠ "java/lang/invoke/MethodHandle" ∧ yX4_entry.cls ≠ "java/lang/invoke/VarHandle" ∧ (parseMethodDescriptor yX4_entry.desc).map (fun d => d.parameters.length) = some 3 := by decide +kernel
abbrev rm_X4_columns : Room := { frames := 0, cells := 0, slots := 0, locals := 0 }
theorem hdX4_columns : yX4_columns.cls = RX4 ∧ yX4_columns.cls ≠ "java/lang/invoke/MethodHandle" ∧ yX4_columns.cls ≠ "java/lang/invoke/VarHandle" ∧ (parseMethodDescriptor yX4_columns.desc).map (fun d => d.parameters.length) = some 1 := by decide +kernel
abbrev rm_X4_rows : Room := { frames := 0, cells := 0, slots := 0, locals := 0 }
theorem hdX4_rows : yX4_rows.cls = RX4 ∧ yX4_rows.cls ≠ "java/lang/invoke/MethodHandle" ∧ yX4_rows.cls ≠ "java/lang/invoke/VarHandle" ∧ (parseMethodDescriptor yX4_rows.desc).map (fun d => d.parameters.length) = some 1 := by decide +kernel
abbrev rm_X4_hasEntry : Room := { frames := 1, cells := 0, slots := 0, locals := 21 }
theorem hdX4_hasEntry : yX4_hasEntry.cls = RX4 ∧ yX4_hasEntry.cls ≠ "java/lang/invoke/MethodHandle" ∧ yX4_hasEntry.cls ≠ "java/lang/invoke/VarHandle" ∧ (parseMethodDescriptor yX4_hasEntry.desc).map (fun d => d.parameters.length) = some 3 := by decide +kernel
abbrev rm_X4_store : Room := { frames := 1, cells := 0, slots := 0, locals := 21 }
theorem hdX4_store : yX4_store.cls = RX4 ∧ yX4_store.cls ≠ "java/lang/invoke/MethodHandle" ∧ yX4_store.cls ≠ "java/lang/invoke/VarHandle" ∧ (parseMethodDescriptor yX4_store.desc).map (fun d => d.parameters.length) = some 4 := by decide +kernel
abbrev rm_X6_reach : Room := { frames := 0, cells := 0, slots := 0, locals := 0 }
theorem hdX6_reach : yX6_reach.cls ≠ "java/lang/invoke/MethodHandle" ∧ yX6_reach.cls ≠ "java/lang/invoke/VarHandle" ∧ (parseMethodDescriptor yX6_reach.desc).map (fun d => d.parameters.length) = some 1 := by decide +kernel
abbrev rm_X6_set : Room := { frames := 2, cells := 0, slots := 0, locals := 46 }
theorem hdX6_set : yX6_set.cls = RX6 ∧ yX6_set.cls ≠ "java/lang/invoke/MethodHandle" ∧ yX6_set.cls ≠ "java/lang/invoke/VarHandle" ∧ (parseMethodDescriptor yX6_set.desc).map (fun d => d.parameters.length) = some 4 := by decide +kernel
abbrev rm_X6_at : Room := { frames := 2, cells := 0, slots := 0, locals := 45 }
theorem hdX6_at : yX6_at.cls = RX6 ∧ yX6_at.cls ≠ "java/lang/invoke/MethodHandle" ∧ yX6_at.cls ≠ "java/lang/invoke/VarHandle" ∧ (parseMethodDescriptor yX6_at.desc).map (fun d => d.parameters.length) = some 3 := by decide +kernel
abbrev rm_X4_largestMinor : Room := { frames := 2, cells := 0, slots := 0, locals := 45 }
theorem hdX4_largestMinor : yX4_largestMinor.cls = RX4 ∧ yX4_largestMinor.cls ≠ "java/lang/invoke/MethodHandle" ∧ yX4_largestMinor.cls ≠ "java/lang/invoke/VarHandle" ∧ (parseMethodDescriptor yX4_largestMinor.desc).map (fun d => d.parameters.length) = some 1 := by decide +kernel
abbrev rm_X4_minor : Room := { frames := 2, cells := 0, slots := 0, locals := 45 }
theorem hdX4_minor : yX4_minor.cls = RX4 ∧ yX4_minor.cls ≠ "java/lang/invoke/MethodHandle" ∧ yX4_minor.cls ≠ "java/lang/invoke/VarHandle" ∧ (parseMethodDescriptor yX4_minor.desc).map (fun d => d.parameters.length) = some 3 := by decide +kernel
abbrev rm_X4_minors : Room := { frames := 3, cells := 0, slots := 0, locals := 71 }
theorem hdX4_minors : yX4_minors.cls = RX4 ∧ yX4_minors.cls ≠ "java/lang/invoke/MethodHandle" ∧ yX4_minors.cls ≠ "java/lang/invoke/VarHandle" ∧ (parseMethodDescriptor yX4_minors.desc).map (fun d => d.parameters.length) = some 2 := by decide +kernel
abbrev rm_X6_far : Room := { frames := 0, cells := 0, slots := 0, locals := 0 }
theorem hdX6_far : yX6_far.cls ≠ "java/lang/invoke/MethodHandle" ∧ yX6_far.cls ≠ "java/lang/invoke/VarHandle" ∧ (parseMethodDescriptor yX6_far.desc).map (fun d => d.parameters.length) = some 1 := by decide +kernel
abbrev rm_X6_det : Room := { frames := 4, cells := 0, slots := 0, locals := 93 }
theorem hdX6_det : yX6_det.cls = RX6 ∧ yX6_det.cls ≠ "java/lang/invoke/MethodHandle" ∧ yX6_det.cls ≠ "java/lang/invoke/VarHandle" ∧ (parseMethodDescriptor yX6_det.desc).map (fun d => d.parameters.length) = some 1 := by decide +kernel
abbrev rm_X6_diagonal : Room := { frames := 4, cells := 0, slots := 0, locals := 93 }
theorem hdX6_diagonal : yX6_diagonal.cls = RX6 ∧ yX6_diagonal.cls ≠ "java/lang/invoke/MethodHandle" ∧ yX6_diagonal.cls ≠ "java/lang/invoke/VarHandle" ∧ (parseMethodDescriptor yX6_diagonal.desc).map (fun d => d.parameters.length) = some 1 := by decide +kernel
abbrev rm_X6_character : Room := { frames := 4, cells := 0, slots := 0, locals := 93 }
theorem hdX6_character : yX6_character.cls = RX6 ∧ yX6_character.cls ≠ "java/lang/invoke/MethodHandle" ∧ yX6_character.cls ≠ "java/lang/invoke/VarHandle" ∧ (parseMethodDescriptor yX6_character.desc).map (fun d => d.parameters.length) = some 2 := by decide +kernel
abbrev rm_X5_take : Room := { frames := 0, cells := 0, slots := 0, locals := 0 }
theorem hdX5_take : yX5_take.cls = RX5 ∧ yX5_take.cls ≠ "java/lang/invoke/MethodHandle" ∧ yX5_take.cls ≠ "java/lang/invoke/VarHandle" ∧ (parseMethodDescriptor yX5_take.desc).map (fun d => d.parameters.length) = some 1 := by decide +kernel
abbrev rm_X6_feed : Room := { frames := 1, cells := 0, slots := 0, locals := 21 }
theorem hdX6_feed : yX6_feed.cls = RX6 ∧ yX6_feed.cls ≠ "java/lang/invoke/MethodHandle" ∧ yX6_feed.cls ≠ "java/lang/invoke/VarHandle" ∧ (parseMethodDescriptor yX6_feed.desc).map (fun d => d.parameters.length) = some 2 := by decide +kernel
abbrev rm_X4_copyFrom : Room := { frames := 1, cells := 0, slots := 0, locals := 60 }
theorem hdX4_copyFrom : yX4_copyFrom.cls = RX4 ∧ yX4_copyFrom.cls ≠ "java/lang/invoke/MethodHandle" ∧ yX4_copyFrom.cls ≠ "java/lang/invoke/VarHandle" ∧ (parseMethodDescriptor yX4_copyFrom.desc).map (fun d => d.parameters.length) = some 1 := by decide +kernel
abbrev rm_X5_here : Room := { frames := 0, cells := 0, slots := 0, locals := 0 }
theorem hdX5_here : yX5_here.cls = RX5 ∧ yX5_here.cls ≠ "java/lang/invoke/MethodHandle" ∧ yX5_here.cls ≠ "java/lang/invoke/VarHandle" ∧ (parseMethodDescriptor yX5_here.desc).map (fun d => d.parameters.length) = some 1 := by decide +kernel
abbrev rm_X5_stretch : Room := { frames := 1, cells := 0, slots := 0, locals := 22 }
theorem hdX5_stretch : yX5_stretch.cls = RX5 ∧ yX5_stretch.cls ≠ "java/lang/invoke/MethodHandle" ∧ yX5_stretch.cls ≠ "java/lang/invoke/VarHandle" ∧ (parseMethodDescriptor yX5_stretch.desc).map (fun d => d.parameters.length) = some 2 := by decide +kernel
abbrev rm_X5_readName : Room := { frames := 2, cells := 0, slots := 0, locals := 45 }
theorem hdX5_readName : yX5_readName.cls = RX5 ∧ yX5_readName.cls ≠ "java/lang/invoke/MethodHandle" ∧ yX5_readName.cls ≠ "java/lang/invoke/VarHandle" ∧ (parseMethodDescriptor yX5_readName.desc).map (fun d => d.parameters.length) = some 0 := by decide +kernel
abbrev rm_X5_skipBlanks : Room := { frames := 1, cells := 0, slots := 0, locals := 22 }
theorem hdX5_skipBlanks : yX5_skipBlanks.cls = RX5 ∧ yX5_skipBlanks.cls ≠ "java/lang/invoke/MethodHandle" ∧ yX5_skipBlanks.cls ≠ "java/lang/invoke/VarHandle" ∧ (parseMethodDescriptor yX5_skipBlanks.desc).map (fun d => d.parameters.length) = some 0 := by decide +kernel
abbrev rm_X5_readMark : Room := { frames := 2, cells := 0, slots := 0, locals := 43 }
theorem hdX5_readMark : yX5_readMark.cls = RX5 ∧ yX5_readMark.cls ≠ "java/lang/invoke/MethodHandle" ∧ yX5_readMark.cls ≠ "java/lang/invoke/VarHandle" ∧ (parseMethodDescriptor yX5_readMark.desc).map (fun d => d.parameters.length) = some 1 := by decide +kernel
abbrev rm_X5_readEntry : Room := { frames := 3, cells := 0, slots := 0, locals := 64 }
theorem hdX5_readEntry : yX5_readEntry.cls = RX5 ∧ yX5_readEntry.cls ≠ "java/lang/invoke/MethodHandle" ∧ yX5_readEntry.cls ≠ "java/lang/invoke/VarHandle" ∧ (parseMethodDescriptor yX5_readEntry.desc).map (fun d => d.parameters.length) = some 4 := by decide +kernel
abbrev rm_X5_readTable : Room := { frames := 4, cells := 0, slots := 0, locals := 91 }
theorem hdX5_readTable : yX5_readTable.cls = RX5 ∧ yX5_readTable.cls ≠ "java/lang/invoke/MethodHandle" ∧ yX5_readTable.cls ≠ "java/lang/invoke/VarHandle" ∧ (parseMethodDescriptor yX5_readTable.desc).map (fun d => d.parameters.length) = some 2 := by decide +kernel
abbrev rm_X5_tell : Room := { frames := 5, cells := 0, slots := 0, locals := 116 }
theorem hdX5_tell : yX5_tell.cls = RX5 ∧ yX5_tell.cls ≠ "java/lang/invoke/MethodHandle" ∧ yX5_tell.cls ≠ "java/lang/invoke/VarHandle" ∧ (parseMethodDescriptor yX5_tell.desc).map (fun d => d.parameters.length) = some 1 := by decide +kernel
abbrev rm_X6_text : Room := { frames := 6, cells := 0, slots := 0, locals := 140 }
theorem hdX6_text : yX6_text.cls = RX6 ∧ yX6_text.cls ≠ "java/lang/invoke/MethodHandle" ∧ yX6_text.cls ≠ "java/lang/invoke/VarHandle" ∧ (parseMethodDescriptor yX6_text.desc).map (fun d => d.parameters.length) = some 0 := by decide +kernel
abbrev rm_X4_hasEquation : Room := { frames := 0, cells := 0, slots := 0, locals := 0 }
theorem hdX4_hasEquation : yX4_hasEquation.cls = RX4 ∧ yX4_hasEquation.cls ≠ "java/lang/invoke/MethodHandle" ∧ yX4_hasEquation.cls ≠ "java/lang/invoke/VarHandle" ∧ (parseMethodDescriptor yX4_hasEquation.desc).map (fun d => d.parameters.length) = some 1 := by decide +kernel
abbrev rm_X4_become : Room := { frames := 1, cells := 0, slots := 0, locals := 21 }
theorem hdX4_become : yX4_become.cls = RX4 ∧ yX4_become.cls ≠ "java/lang/invoke/MethodHandle" ∧ yX4_become.cls ≠ "java/lang/invoke/VarHandle" ∧ (parseMethodDescriptor yX4_become.desc).map (fun d => d.parameters.length) = some 3 := by decide +kernel
abbrev rm_X6_isKind : Room := { frames := 0, cells := 0, slots := 0, locals := 0 }
theorem hdX6_isKind : yX6_isKind.cls ≠ "java/lang/invoke/MethodHandle" ∧ yX6_isKind.cls ≠ "java/lang/invoke/VarHandle" ∧ (parseMethodDescriptor yX6_isKind.desc).map (fun d => d.parameters.length) = some 1 := by decide +kernel
abbrev rm_X6_isShift : Room := { frames := 0, cells := 0, slots := 0, locals := 0 }
theorem hdX6_isShift : yX6_isShift.cls ≠ "java/lang/invoke/MethodHandle" ∧ yX6_isShift.cls ≠ "java/lang/invoke/VarHandle" ∧ (parseMethodDescriptor yX6_isShift.desc).map (fun d => d.parameters.length) = some 1 := by decide +kernel
abbrev rm_X6_equation : Room := { frames := 2, cells := 0, slots := 0, locals := 44 }
theorem hdX6_equation : yX6_equation.cls = RX6 ∧ yX6_equation.cls ≠ "java/lang/invoke/MethodHandle" ∧ yX6_equation.cls ≠ "java/lang/invoke/VarHandle" ∧ (parseMethodDescriptor yX6_equation.desc).map (fun d => d.parameters.length) = some 2 := by decide +kernel
abbrev rm_X1_isFree : Room := { frames := 0, cells := 0, slots := 0, locals := 0 }
theorem hdX1_isFree : yX1_isFree.cls = RX1 ∧ yX1_isFree.cls ≠ "java/lang/invoke/MethodHandle" ∧ yX1_isFree.cls ≠ "java/lang/invoke/VarHandle" ∧ (parseMethodDescriptor yX1_isFree.desc).map (fun d => d.parameters.length) = some 1 := by decide +kernel
abbrev rm_X1_freeSet : Room := { frames := 1, cells := 0, slots := 0, locals := 21 }
theorem hdX1_freeSet : yX1_freeSet.cls = RX1 ∧ yX1_freeSet.cls ≠ "java/lang/invoke/MethodHandle" ∧ yX1_freeSet.cls ≠ "java/lang/invoke/VarHandle" ∧ (parseMethodDescriptor yX1_freeSet.desc).map (fun d => d.parameters.length) = some 0 := by decide +kernel
abbrev rm_X1_hasCell : Room := { frames := 0, cells := 0, slots := 0, locals := 0 }
theorem hdX1_hasCell : yX1_hasCell.cls = RX1 ∧ yX1_hasCell.cls ≠ "java/lang/invoke/MethodHandle" ∧ yX1_hasCell.cls ≠ "java/lang/invoke/VarHandle" ∧ (parseMethodDescriptor yX1_hasCell.desc).map (fun d => d.parameters.length) = some 2 := by decide +kernel
abbrev rm_X1_cell : Room := { frames := 1, cells := 0, slots := 0, locals := 22 }
theorem hdX1_cell : yX1_cell.cls = RX1 ∧ yX1_cell.cls ≠ "java/lang/invoke/MethodHandle" ∧ yX1_cell.cls ≠ "java/lang/invoke/VarHandle" ∧ (parseMethodDescriptor yX1_cell.desc).map (fun d => d.parameters.length) = some 2 := by decide +kernel
abbrev rm_X1_isSolvable : Room := { frames := 2, cells := 0, slots := 0, locals := 44 }
theorem hdX1_isSolvable : yX1_isSolvable.cls = RX1 ∧ yX1_isSolvable.cls ≠ "java/lang/invoke/MethodHandle" ∧ yX1_isSolvable.cls ≠ "java/lang/invoke/VarHandle" ∧ (parseMethodDescriptor yX1_isSolvable.desc).map (fun d => d.parameters.length) = some 0 := by decide +kernel
abbrev rm_X4_hasRight : Room := { frames := 0, cells := 0, slots := 0, locals := 0 }
theorem hdX4_hasRight : yX4_hasRight.cls = RX4 ∧ yX4_hasRight.cls ≠ "java/lang/invoke/MethodHandle" ∧ yX4_hasRight.cls ≠ "java/lang/invoke/VarHandle" ∧ (parseMethodDescriptor yX4_hasRight.desc).map (fun d => d.parameters.length) = some 1 := by decide +kernel
abbrev rm_X4_unknowns : Room := { frames := 0, cells := 0, slots := 0, locals := 0 }
theorem hdX4_unknowns : yX4_unknowns.cls = RX4 ∧ yX4_unknowns.cls ≠ "java/lang/invoke/MethodHandle" ∧ yX4_unknowns.cls ≠ "java/lang/invoke/VarHandle" ∧ (parseMethodDescriptor yX4_unknowns.desc).map (fun d => d.parameters.length) = some 1 := by decide +kernel
abbrev rm_X4_fits : Room := { frames := 1, cells := 0, slots := 0, locals := 21 }
theorem hdX4_fits : yX4_fits.cls = RX4 ∧ yX4_fits.cls ≠ "java/lang/invoke/MethodHandle" ∧ yX4_fits.cls ≠ "java/lang/invoke/VarHandle" ∧ (parseMethodDescriptor yX4_fits.desc).map (fun d => d.parameters.length) = some 1 := by decide +kernel
abbrev rm_X4_kindOf : Room := { frames := 1, cells := 0, slots := 0, locals := 21 }
theorem hdX4_kindOf : yX4_kindOf.cls = RX4 ∧ yX4_kindOf.cls ≠ "java/lang/invoke/MethodHandle" ∧ yX4_kindOf.cls ≠ "java/lang/invoke/VarHandle" ∧ (parseMethodDescriptor yX4_kindOf.desc).map (fun d => d.parameters.length) = some 1 := by decide +kernel
abbrev rm_X4_shiftOf : Room := { frames := 1, cells := 0, slots := 0, locals := 21 }
theorem hdX4_shiftOf : yX4_shiftOf.cls = RX4 ∧ yX4_shiftOf.cls ≠ "java/lang/invoke/MethodHandle" ∧ yX4_shiftOf.cls ≠ "java/lang/invoke/VarHandle" ∧ (parseMethodDescriptor yX4_shiftOf.desc).map (fun d => d.parameters.length) = some 1 := by decide +kernel
abbrev rm_X6_oneIf : Room := { frames := 0, cells := 0, slots := 0, locals := 0 }
theorem hdX6_oneIf : yX6_oneIf.cls ≠ "java/lang/invoke/MethodHandle" ∧ yX6_oneIf.cls ≠ "java/lang/invoke/VarHandle" ∧ (parseMethodDescriptor yX6_oneIf.desc).map (fun d => d.parameters.length) = some 1 := by decide +kernel
abbrev rm_X1_firstFilled : Room := { frames := 2, cells := 0, slots := 0, locals := 44 }
theorem hdX1_firstFilled : yX1_firstFilled.cls = RX1 ∧ yX1_firstFilled.cls ≠ "java/lang/invoke/MethodHandle" ∧ yX1_firstFilled.cls ≠ "java/lang/invoke/VarHandle" ∧ (parseMethodDescriptor yX1_firstFilled.desc).map (fun d => d.parameters.length) = some 1 := by decide +kernel
abbrev rm_X1_write : Room := { frames := 1, cells := 0, slots := 0, locals := 22 }
theorem hdX1_write : yX1_write.cls = RX1 ∧ yX1_write.cls ≠ "java/lang/invoke/MethodHandle" ∧ yX1_write.cls ≠ "java/lang/invoke/VarHandle" ∧ (parseMethodDescriptor yX1_write.desc).map (fun d => d.parameters.length) = some 3 := by decide +kernel
abbrev rm_X1_swapRows : Room := { frames := 2, cells := 0, slots := 0, locals := 46 }
theorem hdX1_swapRows : yX1_swapRows.cls = RX1 ∧ yX1_swapRows.cls ≠ "java/lang/invoke/MethodHandle" ∧ yX1_swapRows.cls ≠ "java/lang/invoke/VarHandle" ∧ (parseMethodDescriptor yX1_swapRows.desc).map (fun d => d.parameters.length) = some 2 := by decide +kernel
abbrev rm_X1_sweep : Room := { frames := 2, cells := 0, slots := 0, locals := 46 }
theorem hdX1_sweep : yX1_sweep.cls = RX1 ∧ yX1_sweep.cls ≠ "java/lang/invoke/MethodHandle" ∧ yX1_sweep.cls ≠ "java/lang/invoke/VarHandle" ∧ (parseMethodDescriptor yX1_sweep.desc).map (fun d => d.parameters.length) = some 2 := by decide +kernel
abbrev rm_X1_eliminate : Room := { frames := 3, cells := 0, slots := 0, locals := 76 }
theorem hdX1_eliminate : yX1_eliminate.cls = RX1 ∧ yX1_eliminate.cls ≠ "java/lang/invoke/MethodHandle" ∧ yX1_eliminate.cls ≠ "java/lang/invoke/VarHandle" ∧ (parseMethodDescriptor yX1_eliminate.desc).map (fun d => d.parameters.length) = some 0 := by decide +kernel
abbrev rm_X1_add : Room := { frames := 2, cells := 0, slots := 0, locals := 46 }
theorem hdX1_add : yX1_add.cls = RX1 ∧ yX1_add.cls ≠ "java/lang/invoke/MethodHandle" ∧ yX1_add.cls ≠ "java/lang/invoke/VarHandle" ∧ (parseMethodDescriptor yX1_add.desc).map (fun d => d.parameters.length) = some 3 := by decide +kernel
abbrev rm_J7_fill_d0a16 : Room := { frames := 0, cells := 0, slots := 0, locals := 0 }
theorem hdJ7_fill_d0a16 : yJ7_fill_d0a16.cls ≠ "java/lang/invoke/MethodHandle" ∧ yJ7_fill_d0a16.cls ≠ "java/lang/invoke/VarHandle" ∧ (parseMethodDescriptor yJ7_fill_d0a16.desc).map (fun d => d.parameters.length) = some 2 := by decide +kernel
abbrev rm_X1_clear : Room := { frames := 1, cells := 0, slots := 0, locals := 24 }
theorem hdX1_clear : yX1_clear.cls = RX1 ∧ yX1_clear.cls ≠ "java/lang/invoke/MethodHandle" ∧ yX1_clear.cls ≠ "java/lang/invoke/VarHandle" ∧ (parseMethodDescriptor yX1_clear.desc).map (fun d => d.parameters.length) = some 2 := by decide +kernel
abbrev rm_X4_leftEntry : Room := { frames := 2, cells := 0, slots := 0, locals := 45 }
theorem hdX4_leftEntry : yX4_leftEntry.cls = RX4 ∧ yX4_leftEntry.cls ≠ "java/lang/invoke/MethodHandle" ∧ yX4_leftEntry.cls ≠ "java/lang/invoke/VarHandle" ∧ (parseMethodDescriptor yX4_leftEntry.desc).map (fun d => d.parameters.length) = some 3 := by decide +kernel
abbrev rm_X4_rightEntry : Room := { frames := 2, cells := 0, slots := 0, locals := 45 }
theorem hdX4_rightEntry : yX4_rightEntry.cls = RX4 ∧ yX4_rightEntry.cls ≠ "java/lang/invoke/MethodHandle" ∧ yX4_rightEntry.cls ≠ "java/lang/invoke/VarHandle" ∧ (parseMethodDescriptor yX4_rightEntry.desc).map (fun d => d.parameters.length) = some 3 := by decide +kernel
abbrev rm_X4_signAt : Room := { frames := 0, cells := 0, slots := 0, locals := 0 }
theorem hdX4_signAt : yX4_signAt.cls = RX4 ∧ yX4_signAt.cls ≠ "java/lang/invoke/MethodHandle" ∧ yX4_signAt.cls ≠ "java/lang/invoke/VarHandle" ∧ (parseMethodDescriptor yX4_signAt.desc).map (fun d => d.parameters.length) = some 3 := by decide +kernel
abbrev rm_X4_unknownAt : Room := { frames := 1, cells := 0, slots := 0, locals := 21 }
theorem hdX4_unknownAt : yX4_unknownAt.cls = RX4 ∧ yX4_unknownAt.cls ≠ "java/lang/invoke/MethodHandle" ∧ yX4_unknownAt.cls ≠ "java/lang/invoke/VarHandle" ∧ (parseMethodDescriptor yX4_unknownAt.desc).map (fun d => d.parameters.length) = some 3 := by decide +kernel
abbrev rm_X6_fillRow : Room := { frames := 3, cells := 0, slots := 0, locals := 70 }
theorem hdX6_fillRow : yX6_fillRow.cls = RX6 ∧ yX6_fillRow.cls ≠ "java/lang/invoke/MethodHandle" ∧ yX6_fillRow.cls ≠ "java/lang/invoke/VarHandle" ∧ (parseMethodDescriptor yX6_fillRow.desc).map (fun d => d.parameters.length) = some 6 := by decide +kernel
abbrev rm_X6_fillGrid : Room := { frames := 4, cells := 0, slots := 0, locals := 102 }
theorem hdX6_fillGrid : yX6_fillGrid.cls = RX6 ∧ yX6_fillGrid.cls ≠ "java/lang/invoke/MethodHandle" ∧ yX6_fillGrid.cls ≠ "java/lang/invoke/VarHandle" ∧ (parseMethodDescriptor yX6_fillGrid.desc).map (fun d => d.parameters.length) = some 4 := by decide +kernel
abbrev rm_X6_solve : Room := { frames := 5, cells := 0, slots := 0, locals := 130 }
theorem hdX6_solve : yX6_solve.cls = RX6 ∧ yX6_solve.cls ≠ "java/lang/invoke/MethodHandle" ∧ yX6_solve.cls ≠ "java/lang/invoke/VarHandle" ∧ (parseMethodDescriptor yX6_solve.desc).map (fun d => d.parameters.length) = some 1 := by decide +kernel
abbrev rm_X6_of : Room := { frames := 6, cells := 0, slots := 0, locals := 152 }
theorem hdX6_of : yX6_of.cls = RX6 ∧ yX6_of.cls ≠ "java/lang/invoke/MethodHandle" ∧ yX6_of.cls ≠ "java/lang/invoke/VarHandle" ∧ (parseMethodDescriptor yX6_of.desc).map (fun d => d.parameters.length) = some 2 := by decide +kernel
abbrev rm_X6_change : Room := { frames := 2, cells := 0, slots := 0, locals := 44 }
theorem hdX6_change : yX6_change.cls = RX6 ∧ yX6_change.cls ≠ "java/lang/invoke/MethodHandle" ∧ yX6_change.cls ≠ "java/lang/invoke/VarHandle" ∧ (parseMethodDescriptor yX6_change.desc).map (fun d => d.parameters.length) = some 3 := by decide +kernel
abbrev rm_X6_right : Room := { frames := 3, cells := 0, slots := 0, locals := 68 }
theorem hdX6_right : yX6_right.cls = RX6 ∧ yX6_right.cls ≠ "java/lang/invoke/MethodHandle" ∧ yX6_right.cls ≠ "java/lang/invoke/VarHandle" ∧ (parseMethodDescriptor yX6_right.desc).map (fun d => d.parameters.length) = some 3 := by decide +kernel
abbrev rm_X6_commonDivisor : Room := { frames := 0, cells := 0, slots := 0, locals := 0 }
theorem hdX6_commonDivisor : yX6_commonDivisor.cls ≠ "java/lang/invoke/MethodHandle" ∧ yX6_commonDivisor.cls ≠ "java/lang/invoke/VarHandle" ∧ (parseMethodDescriptor yX6_commonDivisor.desc).map (fun d => d.parameters.length) = some 2 := by decide +kernel
abbrev rm_X6_fractionPart : Room := { frames := 1, cells := 0, slots := 0, locals := 30 }
theorem hdX6_fractionPart : yX6_fractionPart.cls ≠ "java/lang/invoke/MethodHandle" ∧ yX6_fractionPart.cls ≠ "java/lang/invoke/VarHandle" ∧ (parseMethodDescriptor yX6_fractionPart.desc).map (fun d => d.parameters.length) = some 3 := by decide +kernel
abbrev rm_X6_isPart : Room := { frames := 0, cells := 0, slots := 0, locals := 0 }
theorem hdX6_isPart : yX6_isPart.cls ≠ "java/lang/invoke/MethodHandle" ∧ yX6_isPart.cls ≠ "java/lang/invoke/VarHandle" ∧ (parseMethodDescriptor yX6_isPart.desc).map (fun d => d.parameters.length) = some 1 := by decide +kernel
abbrev rm_X1_isPivot : Room := { frames := 0, cells := 0, slots := 0, locals := 0 }
theorem hdX1_isPivot : yX1_isPivot.cls = RX1 ∧ yX1_isPivot.cls ≠ "java/lang/invoke/MethodHandle" ∧ yX1_isPivot.cls ≠ "java/lang/invoke/VarHandle" ∧ (parseMethodDescriptor yX1_isPivot.desc).map (fun d => d.parameters.length) = some 1 := by decide +kernel
abbrev rm_X1_solutionAbove : Room := { frames := 2, cells := 0, slots := 0, locals := 44 }
theorem hdX1_solutionAbove : yX1_solutionAbove.cls = RX1 ∧ yX1_solutionAbove.cls ≠ "java/lang/invoke/MethodHandle" ∧ yX1_solutionAbove.cls ≠ "java/lang/invoke/VarHandle" ∧ (parseMethodDescriptor yX1_solutionAbove.desc).map (fun d => d.parameters.length) = some 1 := by decide +kernel
abbrev rm_X6_solutionAbove : Room := { frames := 3, cells := 0, slots := 0, locals := 65 }
theorem hdX6_solutionAbove : yX6_solutionAbove.cls = RX6 ∧ yX6_solutionAbove.cls ≠ "java/lang/invoke/MethodHandle" ∧ yX6_solutionAbove.cls ≠ "java/lang/invoke/VarHandle" ∧ (parseMethodDescriptor yX6_solutionAbove.desc).map (fun d => d.parameters.length) = some 3 := by decide +kernel
abbrev rm_X6_solution : Room := { frames := 6, cells := 0, slots := 0, locals := 152 }
theorem hdX6_solution : yX6_solution.cls = RX6 ∧ yX6_solution.cls ≠ "java/lang/invoke/MethodHandle" ∧ yX6_solution.cls ≠ "java/lang/invoke/VarHandle" ∧ (parseMethodDescriptor yX6_solution.desc).map (fun d => d.parameters.length) = some 4 := by decide +kernel
abbrev rm_X1_baseAbove : Room := { frames := 2, cells := 0, slots := 0, locals := 44 }
theorem hdX1_baseAbove : yX1_baseAbove.cls = RX1 ∧ yX1_baseAbove.cls ≠ "java/lang/invoke/MethodHandle" ∧ yX1_baseAbove.cls ≠ "java/lang/invoke/VarHandle" ∧ (parseMethodDescriptor yX1_baseAbove.desc).map (fun d => d.parameters.length) = some 2 := by decide +kernel
abbrev rm_X6_base : Room := { frames := 6, cells := 0, slots := 0, locals := 152 }
theorem hdX6_base : yX6_base.cls = RX6 ∧ yX6_base.cls ≠ "java/lang/invoke/MethodHandle" ∧ yX6_base.cls ≠ "java/lang/invoke/VarHandle" ∧ (parseMethodDescriptor yX6_base.desc).map (fun d => d.parameters.length) = some 5 := by decide +kernel
abbrev rm_X1_fillTurned : Room := { frames := 2, cells := 0, slots := 0, locals := 46 }
theorem hdX1_fillTurned : yX1_fillTurned.cls = RX1 ∧ yX1_fillTurned.cls ≠ "java/lang/invoke/MethodHandle" ∧ yX1_fillTurned.cls ≠ "java/lang/invoke/VarHandle" ∧ (parseMethodDescriptor yX1_fillTurned.desc).map (fun d => d.parameters.length) = some 1 := by decide +kernel
abbrev rm_X6_witness : Room := { frames := 5, cells := 0, slots := 0, locals := 130 }
theorem hdX6_witness : yX6_witness.cls = RX6 ∧ yX6_witness.cls ≠ "java/lang/invoke/MethodHandle" ∧ yX6_witness.cls ≠ "java/lang/invoke/VarHandle" ∧ (parseMethodDescriptor yX6_witness.desc).map (fun d => d.parameters.length) = some 4 := by decide +kernel
abbrev rm_X6_isSmallWhole : Room := { frames := 2, cells := 0, slots := 0, locals := 42 }
theorem hdX6_isSmallWhole : yX6_isSmallWhole.cls = RX6 ∧ yX6_isSmallWhole.cls ≠ "java/lang/invoke/MethodHandle" ∧ yX6_isSmallWhole.cls ≠ "java/lang/invoke/VarHandle" ∧ (parseMethodDescriptor yX6_isSmallWhole.desc).map (fun d => d.parameters.length) = some 1 := by decide +kernel
abbrev rm_X6_similar : Room := { frames := 5, cells := 0, slots := 0, locals := 130 }
theorem hdX6_similar : yX6_similar.cls = RX6 ∧ yX6_similar.cls ≠ "java/lang/invoke/MethodHandle" ∧ yX6_similar.cls ≠ "java/lang/invoke/VarHandle" ∧ (parseMethodDescriptor yX6_similar.desc).map (fun d => d.parameters.length) = some 1 := by decide +kernel
abbrev rm_X1_determinant : Room := { frames := 0, cells := 0, slots := 0, locals := 0 }
theorem hdX1_determinant : yX1_determinant.cls = RX1 ∧ yX1_determinant.cls ≠ "java/lang/invoke/MethodHandle" ∧ yX1_determinant.cls ≠ "java/lang/invoke/VarHandle" ∧ (parseMethodDescriptor yX1_determinant.desc).map (fun d => d.parameters.length) = some 0 := by decide +kernel
abbrev rm_X6_whole : Room := { frames := 5, cells := 0, slots := 0, locals := 130 }
theorem hdX6_whole : yX6_whole.cls = RX6 ∧ yX6_whole.cls ≠ "java/lang/invoke/MethodHandle" ∧ yX6_whole.cls ≠ "java/lang/invoke/VarHandle" ∧ (parseMethodDescriptor yX6_whole.desc).map (fun d => d.parameters.length) = some 1 := by decide +kernel
abbrev rm_X4_splits : Room := { frames := 2, cells := 0, slots := 0, locals := 45 }
theorem hdX4_splits : yX4_splits.cls = RX4 ∧ yX4_splits.cls ≠ "java/lang/invoke/MethodHandle" ∧ yX4_splits.cls ≠ "java/lang/invoke/VarHandle" ∧ (parseMethodDescriptor yX4_splits.desc).map (fun d => d.parameters.length) = some 1 := by decide +kernel
abbrev rm_X6_lower : Room := { frames := 5, cells := 0, slots := 0, locals := 130 }
theorem hdX6_lower : yX6_lower.cls = RX6 ∧ yX6_lower.cls ≠ "java/lang/invoke/MethodHandle" ∧ yX6_lower.cls ≠ "java/lang/invoke/VarHandle" ∧ (parseMethodDescriptor yX6_lower.desc).map (fun d => d.parameters.length) = some 2 := by decide +kernel
abbrev rm_X6_swapped : Room := { frames := 4, cells := 0, slots := 0, locals := 93 }
theorem hdX6_swapped : yX6_swapped.cls = RX6 ∧ yX6_swapped.cls ≠ "java/lang/invoke/MethodHandle" ∧ yX6_swapped.cls ≠ "java/lang/invoke/VarHandle" ∧ (parseMethodDescriptor yX6_swapped.desc).map (fun d => d.parameters.length) = some 0 := by decide +kernel
abbrev rm_X6_stable : Room := { frames := 4, cells := 0, slots := 0, locals := 93 }
theorem hdX6_stable : yX6_stable.cls = RX6 ∧ yX6_stable.cls ≠ "java/lang/invoke/MethodHandle" ∧ yX6_stable.cls ≠ "java/lang/invoke/VarHandle" ∧ (parseMethodDescriptor yX6_stable.desc).map (fun d => d.parameters.length) = some 0 := by decide +kernel
abbrev rm_X2_renew : Room := { frames := 1, cells := 0, slots := 0, locals := 24 }
theorem hdX2_renew : yX2_renew.cls = RX2 ∧ yX2_renew.cls ≠ "java/lang/invoke/MethodHandle" ∧ yX2_renew.cls ≠ "java/lang/invoke/VarHandle" ∧ (parseMethodDescriptor yX2_renew.desc).map (fun d => d.parameters.length) = some 2 := by decide +kernel
abbrev rm_X2_narrowed : Room := { frames := 0, cells := 0, slots := 0, locals := 0 }
theorem hdX2_narrowed : yX2_narrowed.cls = RX2 ∧ yX2_narrowed.cls ≠ "java/lang/invoke/MethodHandle" ∧ yX2_narrowed.cls ≠ "java/lang/invoke/VarHandle" ∧ (parseMethodDescriptor yX2_narrowed.desc).map (fun d => d.parameters.length) = some 1 := by decide +kernel
abbrev rm_X2_write : Room := { frames := 1, cells := 0, slots := 0, locals := 22 }
theorem hdX2_write : yX2_write.cls = RX2 ∧ yX2_write.cls ≠ "java/lang/invoke/MethodHandle" ∧ yX2_write.cls ≠ "java/lang/invoke/VarHandle" ∧ (parseMethodDescriptor yX2_write.desc).map (fun d => d.parameters.length) = some 2 := by decide +kernel
abbrev rm_X6_isInt : Room := { frames := 0, cells := 0, slots := 0, locals := 0 }
theorem hdX6_isInt : yX6_isInt.cls ≠ "java/lang/invoke/MethodHandle" ∧ yX6_isInt.cls ≠ "java/lang/invoke/VarHandle" ∧ (parseMethodDescriptor yX6_isInt.desc).map (fun d => d.parameters.length) = some 1 := by decide +kernel
abbrev rm_X6_isLaidInInts : Room := { frames := 4, cells := 0, slots := 0, locals := 88 }
theorem hdX6_isLaidInInts : yX6_isLaidInInts.cls = RX6 ∧ yX6_isLaidInInts.cls ≠ "java/lang/invoke/MethodHandle" ∧ yX6_isLaidInInts.cls ≠ "java/lang/invoke/VarHandle" ∧ (parseMethodDescriptor yX6_isLaidInInts.desc).map (fun d => d.parameters.length) = some 2 := by decide +kernel
abbrev rm_X6_isSheet : Room := { frames := 0, cells := 0, slots := 0, locals := 0 }
theorem hdX6_isSheet : yX6_isSheet.cls ≠ "java/lang/invoke/MethodHandle" ∧ yX6_isSheet.cls ≠ "java/lang/invoke/VarHandle" ∧ (parseMethodDescriptor yX6_isSheet.desc).map (fun d => d.parameters.length) = some 1 := by decide +kernel
abbrev rm_X6_solutionDivisor : Room := { frames := 4, cells := 0, slots := 0, locals := 88 }
theorem hdX6_solutionDivisor : yX6_solutionDivisor.cls = RX6 ∧ yX6_solutionDivisor.cls ≠ "java/lang/invoke/MethodHandle" ∧ yX6_solutionDivisor.cls ≠ "java/lang/invoke/VarHandle" ∧ (parseMethodDescriptor yX6_solutionDivisor.desc).map (fun d => d.parameters.length) = some 1 := by decide +kernel
abbrev rm_X6_lay : Room := { frames := 6, cells := 0, slots := 0, locals := 152 }
theorem hdX6_lay : yX6_lay.cls = RX6 ∧ yX6_lay.cls ≠ "java/lang/invoke/MethodHandle" ∧ yX6_lay.cls ≠ "java/lang/invoke/VarHandle" ∧ (parseMethodDescriptor yX6_lay.desc).map (fun d => d.parameters.length) = some 2 := by decide +kernel
abbrev rm_X2_read : Room := { frames := 0, cells := 0, slots := 0, locals := 0 }
theorem hdX2_read : yX2_read.cls = RX2 ∧ yX2_read.cls ≠ "java/lang/invoke/MethodHandle" ∧ yX2_read.cls ≠ "java/lang/invoke/VarHandle" ∧ (parseMethodDescriptor yX2_read.desc).map (fun d => d.parameters.length) = some 1 := by decide +kernel
abbrev rm_X6_sumAt : Room := { frames := 3, cells := 0, slots := 0, locals := 68 }
theorem hdX6_sumAt : yX6_sumAt.cls = RX6 ∧ yX6_sumAt.cls ≠ "java/lang/invoke/MethodHandle" ∧ yX6_sumAt.cls ≠ "java/lang/invoke/VarHandle" ∧ (parseMethodDescriptor yX6_sumAt.desc).map (fun d => d.parameters.length) = some 5 := by decide +kernel
abbrev rm_X6_firstWrong : Room := { frames := 4, cells := 0, slots := 0, locals := 96 }
theorem hdX6_firstWrong : yX6_firstWrong.cls = RX6 ∧ yX6_firstWrong.cls ≠ "java/lang/invoke/MethodHandle" ∧ yX6_firstWrong.cls ≠ "java/lang/invoke/VarHandle" ∧ (parseMethodDescriptor yX6_firstWrong.desc).map (fun d => d.parameters.length) = some 4 := by decide +kernel
abbrev rm_X6_isOfShape : Room := { frames := 1, cells := 0, slots := 0, locals := 21 }
theorem hdX6_isOfShape : yX6_isOfShape.cls = RX6 ∧ yX6_isOfShape.cls ≠ "java/lang/invoke/MethodHandle" ∧ yX6_isOfShape.cls ≠ "java/lang/invoke/VarHandle" ∧ (parseMethodDescriptor yX6_isOfShape.desc).map (fun d => d.parameters.length) = some 2 := by decide +kernel
abbrev rm_X6_unreadable : Room := { frames := 0, cells := 0, slots := 0, locals := 0 }
theorem hdX6_unreadable : yX6_unreadable.cls = RX6 ∧ yX6_unreadable.cls ≠ "java/lang/invoke/MethodHandle" ∧ yX6_unreadable.cls ≠ "java/lang/invoke/VarHandle" ∧ (parseMethodDescriptor yX6_unreadable.desc).map (fun d => d.parameters.length) = some 1 := by decide +kernel
abbrev rm_X6_judge : Room := { frames := 5, cells := 0, slots := 0, locals := 122 }
theorem hdX6_judge : yX6_judge.cls = RX6 ∧ yX6_judge.cls ≠ "java/lang/invoke/MethodHandle" ∧ yX6_judge.cls ≠ "java/lang/invoke/VarHandle" ∧ (parseMethodDescriptor yX6_judge.desc).map (fun d => d.parameters.length) = some 3 := by decide +kernel
abbrev rm_X6_kinds : Room := { frames := 5, cells := 0, slots := 0, locals := 122 }
theorem hdX6_kinds : yX6_kinds.cls = RX6 ∧ yX6_kinds.cls ≠ "java/lang/invoke/MethodHandle" ∧ yX6_kinds.cls ≠ "java/lang/invoke/VarHandle" ∧ (parseMethodDescriptor yX6_kinds.desc).map (fun d => d.parameters.length) = some 2 := by decide +kernel
abbrev rm_X6_ratio : Room := { frames := 2, cells := 0, slots := 0, locals := 56 }
theorem hdX6_ratio : yX6_ratio.cls = RX6 ∧ yX6_ratio.cls ≠ "java/lang/invoke/MethodHandle" ∧ yX6_ratio.cls ≠ "java/lang/invoke/VarHandle" ∧ (parseMethodDescriptor yX6_ratio.desc).map (fun d => d.parameters.length) = some 3 := by decide +kernel
abbrev rm_X6_seed : Room := { frames := 0, cells := 0, slots := 0, locals := 0 }
theorem hdX6_seed : yX6_seed.cls = RX6 ∧ yX6_seed.cls ≠ "java/lang/invoke/MethodHandle" ∧ yX6_seed.cls ≠ "java/lang/invoke/VarHandle" ∧ (parseMethodDescriptor yX6_seed.desc).map (fun d => d.parameters.length) = some 1 := by decide +kernel
abbrev rm_X4_drawTable : Room := { frames := 2, cells := 0, slots := 0, locals := 46 }
theorem hdX4_drawTable : yX4_drawTable.cls = RX4 ∧ yX4_drawTable.cls ≠ "java/lang/invoke/MethodHandle" ∧ yX4_drawTable.cls ≠ "java/lang/invoke/VarHandle" ∧ (parseMethodDescriptor yX4_drawTable.desc).map (fun d => d.parameters.length) = some 1 := by decide +kernel
abbrev rm_X4_draw : Room := { frames := 3, cells := 0, slots := 0, locals := 69 }
theorem hdX4_draw : yX4_draw.cls = RX4 ∧ yX4_draw.cls ≠ "java/lang/invoke/MethodHandle" ∧ yX4_draw.cls ≠ "java/lang/invoke/VarHandle" ∧ (parseMethodDescriptor yX4_draw.desc).map (fun d => d.parameters.length) = some 0 := by decide +kernel
abbrev rm_X6_lot : Room := { frames := 4, cells := 0, slots := 0, locals := 89 }
theorem hdX6_lot : yX6_lot.cls = RX6 ∧ yX6_lot.cls ≠ "java/lang/invoke/MethodHandle" ∧ yX6_lot.cls ≠ "java/lang/invoke/VarHandle" ∧ (parseMethodDescriptor yX6_lot.desc).map (fun d => d.parameters.length) = some 0 := by decide +kernel
abbrev rm_X6_times : Room := { frames := 6, cells := 0, slots := 0, locals := 152 }
theorem hdX6_times : yX6_times.cls = RX6 ∧ yX6_times.cls ≠ "java/lang/invoke/MethodHandle" ∧ yX6_times.cls ≠ "java/lang/invoke/VarHandle" ∧ (parseMethodDescriptor yX6_times.desc).map (fun d => d.parameters.length) = some 2 := by decide +kernel
abbrev rm_X6_isSort : Room := { frames := 0, cells := 0, slots := 0, locals := 0 }
theorem hdX6_isSort : yX6_isSort.cls ≠ "java/lang/invoke/MethodHandle" ∧ yX6_isSort.cls ≠ "java/lang/invoke/VarHandle" ∧ (parseMethodDescriptor yX6_isSort.desc).map (fun d => d.parameters.length) = some 1 := by decide +kernel
abbrev rm_X6_sheet : Room := { frames := 2, cells := 0, slots := 0, locals := 46 }
theorem hdX6_sheet : yX6_sheet.cls = RX6 ∧ yX6_sheet.cls ≠ "java/lang/invoke/MethodHandle" ∧ yX6_sheet.cls ≠ "java/lang/invoke/VarHandle" ∧ (parseMethodDescriptor yX6_sheet.desc).map (fun d => d.parameters.length) = some 3 := by decide +kernel
abbrev rm_X6_put : Room := { frames := 2, cells := 0, slots := 0, locals := 45 }
theorem hdX6_put : yX6_put.cls = RX6 ∧ yX6_put.cls ≠ "java/lang/invoke/MethodHandle" ∧ yX6_put.cls ≠ "java/lang/invoke/VarHandle" ∧ (parseMethodDescriptor yX6_put.desc).map (fun d => d.parameters.length) = some 3 := by decide +kernel
abbrev rm_X6_item : Room := { frames := 1, cells := 0, slots := 0, locals := 21 }
theorem hdX6_item : yX6_item.cls = RX6 ∧ yX6_item.cls ≠ "java/lang/invoke/MethodHandle" ∧ yX6_item.cls ≠ "java/lang/invoke/VarHandle" ∧ (parseMethodDescriptor yX6_item.desc).map (fun d => d.parameters.length) = some 3 := by decide +kernel
abbrev rm_X2_hasStretch : Room := { frames := 0, cells := 0, slots := 0, locals := 0 }
theorem hdX2_hasStretch : yX2_hasStretch.cls = RX2 ∧ yX2_hasStretch.cls ≠ "java/lang/invoke/MethodHandle" ∧ yX2_hasStretch.cls ≠ "java/lang/invoke/VarHandle" ∧ (parseMethodDescriptor yX2_hasStretch.desc).map (fun d => d.parameters.length) = some 2 := by decide +kernel
abbrev rm_X6_move : Room := { frames := 1, cells := 0, slots := 0, locals := 60 }
theorem hdX6_move : yX6_move.cls = RX6 ∧ yX6_move.cls ≠ "java/lang/invoke/MethodHandle" ∧ yX6_move.cls ≠ "java/lang/invoke/VarHandle" ∧ (parseMethodDescriptor yX6_move.desc).map (fun d => d.parameters.length) = some 5 := by decide +kernel
abbrev rm_X3_hold : Room := { frames := 0, cells := 0, slots := 0, locals := 0 }
theorem hdX3_hold : yX3_hold.cls = RX3 ∧ yX3_hold.cls ≠ "java/lang/invoke/MethodHandle" ∧ yX3_hold.cls ≠ "java/lang/invoke/VarHandle" ∧ (parseMethodDescriptor yX3_hold.desc).map (fun d => d.parameters.length) = some 3 := by decide +kernel
abbrev rm_X6_isShelf : Room := { frames := 0, cells := 0, slots := 0, locals := 0 }
theorem hdX6_isShelf : yX6_isShelf.cls ≠ "java/lang/invoke/MethodHandle" ∧ yX6_isShelf.cls ≠ "java/lang/invoke/VarHandle" ∧ (parseMethodDescriptor yX6_isShelf.desc).map (fun d => d.parameters.length) = some 1 := by decide +kernel
abbrev rm_X6_shelf : Room := { frames := 1, cells := 0, slots := 0, locals := 23 }
theorem hdX6_shelf : yX6_shelf.cls = RX6 ∧ yX6_shelf.cls ≠ "java/lang/invoke/MethodHandle" ∧ yX6_shelf.cls ≠ "java/lang/invoke/VarHandle" ∧ (parseMethodDescriptor yX6_shelf.desc).map (fun d => d.parameters.length) = some 3 := by decide +kernel
abbrev rm_X6_heldNow : Room := { frames := 1, cells := 0, slots := 0, locals := 21 }
theorem hdX6_heldNow : yX6_heldNow.cls = RX6 ∧ yX6_heldNow.cls ≠ "java/lang/invoke/MethodHandle" ∧ yX6_heldNow.cls ≠ "java/lang/invoke/VarHandle" ∧ (parseMethodDescriptor yX6_heldNow.desc).map (fun d => d.parameters.length) = some 1 := by decide +kernel
abbrev rm_X6_kindAbove : Room := { frames := 0, cells := 0, slots := 0, locals := 0 }
theorem hdX6_kindAbove : yX6_kindAbove.cls ≠ "java/lang/invoke/MethodHandle" ∧ yX6_kindAbove.cls ≠ "java/lang/invoke/VarHandle" ∧ (parseMethodDescriptor yX6_kindAbove.desc).map (fun d => d.parameters.length) = some 1 := by decide +kernel
abbrev rm_X6_isUnder : Room := { frames := 1, cells := 0, slots := 0, locals := 20 }
theorem hdX6_isUnder : yX6_isUnder.cls ≠ "java/lang/invoke/MethodHandle" ∧ yX6_isUnder.cls ≠ "java/lang/invoke/VarHandle" ∧ (parseMethodDescriptor yX6_isUnder.desc).map (fun d => d.parameters.length) = some 2 := by decide +kernel
abbrev rm_X6_taken : Room := { frames := 2, cells := 0, slots := 0, locals := 43 }
theorem hdX6_taken : yX6_taken.cls = RX6 ∧ yX6_taken.cls ≠ "java/lang/invoke/MethodHandle" ∧ yX6_taken.cls ≠ "java/lang/invoke/VarHandle" ∧ (parseMethodDescriptor yX6_taken.desc).map (fun d => d.parameters.length) = some 2 := by decide +kernel
abbrev rm_X0_forget : Room := { frames := 0, cells := 0, slots := 0, locals := 0 }
theorem hdX0_forget : yX0_forget.cls = RX0 ∧ yX0_forget.cls ≠ "java/lang/invoke/MethodHandle" ∧ yX0_forget.cls ≠ "java/lang/invoke/VarHandle" ∧ (parseMethodDescriptor yX0_forget.desc).map (fun d => d.parameters.length) = some 0 := by decide +kernel
abbrev rm_X0_begin : Room := { frames := 0, cells := 0, slots := 0, locals := 0 }
theorem hdX0_begin : yX0_begin.cls = RX0 ∧ yX0_begin.cls ≠ "java/lang/invoke/MethodHandle" ∧ yX0_begin.cls ≠ "java/lang/invoke/VarHandle" ∧ (parseMethodDescriptor yX0_begin.desc).map (fun d => d.parameters.length) = some 1 := by decide +kernel
abbrev rm_X0_closes_D0 : Room := { frames := 0, cells := 0, slots := 0, locals := 0 }
theorem hdX0_closes : yX0_closes.cls = RX0 ∧ yX0_closes.cls ≠ "java/lang/invoke/MethodHandle" ∧ yX0_closes.cls ≠ "java/lang/invoke/VarHandle" ∧ (parseMethodDescriptor yX0_closes.desc).map (fun d => d.parameters.length) = some 2 := by decide +kernel
abbrev rm_X0_parts_D0 : Room := { frames := 0, cells := 0, slots := 0, locals := 0 }
theorem hdX0_parts : yX0_parts.cls = RX0 ∧ yX0_parts.cls ≠ "java/lang/invoke/MethodHandle" ∧ yX0_parts.cls ≠ "java/lang/invoke/VarHandle" ∧ (parseMethodDescriptor yX0_parts.desc).map (fun d => d.parameters.length) = some 2 := by decide +kernel
abbrev rm_X0_weighs_D0 : Room := { frames := 0, cells := 0, slots := 0, locals := 0 }
theorem hdX0_weighs : yX0_weighs.cls = RX0 ∧ yX0_weighs.cls ≠ "java/lang/invoke/MethodHandle" ∧ yX0_weighs.cls ≠ "java/lang/invoke/VarHandle" ∧ (parseMethodDescriptor yX0_weighs.desc).map (fun d => d.parameters.length) = some 2 := by decide +kernel
abbrev rm_X0_weighs_D1 : Room := { frames := 1, cells := 0, slots := 0, locals := 22 }
abbrev rm_X0_weighs_D2 : Room := { frames := 2, cells := 0, slots := 0, locals := 44 }
abbrev rm_X0_weighs_D3 : Room := { frames := 3, cells := 0, slots := 0, locals := 66 }
abbrev rm_X0_parts_D1 : Room := { frames := 4, cells := 0, slots := 0, locals := 88 }
abbrev rm_X0_parts_D2 : Room := { frames := 5, cells := 0, slots := 0, locals := 111 }
abbrev rm_X0_parts_D3 : Room := { frames := 6, cells := 0, slots := 0, locals := 134 }
abbrev rm_X0_turns_D0 : Room := { frames := 0, cells := 0, slots := 0, locals := 0 }
theorem hdX0_turns : yX0_turns.cls = RX0 ∧ yX0_turns.cls ≠ "java/lang/invoke/MethodHandle" ∧ yX0_turns.cls ≠ "java/lang/invoke/VarHandle" ∧ (parseMethodDescriptor yX0_turns.desc).map (fun d => d.parameters.length) = some 2 := by decide +kernel
abbrev rm_X0_turns_D1 : Room := { frames := 4, cells := 0, slots := 0, locals := 88 }
abbrev rm_X0_turns_D2 : Room := { frames := 5, cells := 0, slots := 0, locals := 110 }
abbrev rm_X0_turns_D3 : Room := { frames := 6, cells := 0, slots := 0, locals := 132 }
abbrev rm_X0_closes_D1 : Room := { frames := 7, cells := 0, slots := 0, locals := 157 }
abbrev rm_X0_closes_D2 : Room := { frames := 8, cells := 0, slots := 0, locals := 179 }
abbrev rm_X0_closes_D3 : Room := { frames := 9, cells := 0, slots := 0, locals := 201 }
abbrev rm_X0_run : Room := { frames := 10, cells := 0, slots := 0, locals := 223 }
theorem hdX0_run : yX0_run.cls = RX0 ∧ yX0_run.cls ≠ "java/lang/invoke/MethodHandle" ∧ yX0_run.cls ≠ "java/lang/invoke/VarHandle" ∧ (parseMethodDescriptor yX0_run.desc).map (fun d => d.parameters.length) = some 2 := by decide +kernel
abbrev rm_X6_act : Room := { frames := 11, cells := 0, slots := 0, locals := 246 }
theorem hdX6_act : yX6_act.cls = RX6 ∧ yX6_act.cls ≠ "java/lang/invoke/MethodHandle" ∧ yX6_act.cls ≠ "java/lang/invoke/VarHandle" ∧ (parseMethodDescriptor yX6_act.desc).map (fun d => d.parameters.length) = some 3 := by decide +kernel
abbrev rm_X6_trace : Room := { frames := 0, cells := 0, slots := 0, locals := 0 }
theorem hdX6_trace : yX6_trace.cls = RX6 ∧ yX6_trace.cls ≠ "java/lang/invoke/MethodHandle" ∧ yX6_trace.cls ≠ "java/lang/invoke/VarHandle" ∧ (parseMethodDescriptor yX6_trace.desc).map (fun d => d.parameters.length) = some 1 := by decide +kernel
abbrev rm_X4_fittingSet : Room := { frames := 2, cells := 0, slots := 0, locals := 42 }
theorem hdX4_fittingSet : yX4_fittingSet.cls = RX4 ∧ yX4_fittingSet.cls ≠ "java/lang/invoke/MethodHandle" ∧ yX4_fittingSet.cls ≠ "java/lang/invoke/VarHandle" ∧ (parseMethodDescriptor yX4_fittingSet.desc).map (fun d => d.parameters.length) = some 0 := by decide +kernel
abbrev rm_X4_splitSet : Room := { frames := 3, cells := 0, slots := 0, locals := 68 }
theorem hdX4_splitSet : yX4_splitSet.cls = RX4 ∧ yX4_splitSet.cls ≠ "java/lang/invoke/MethodHandle" ∧ yX4_splitSet.cls ≠ "java/lang/invoke/VarHandle" ∧ (parseMethodDescriptor yX4_splitSet.desc).map (fun d => d.parameters.length) = some 0 := by decide +kernel
abbrev rm_X6_many : Room := { frames := 4, cells := 0, slots := 0, locals := 90 }
theorem hdX6_many : yX6_many.cls = RX6 ∧ yX6_many.cls ≠ "java/lang/invoke/MethodHandle" ∧ yX6_many.cls ≠ "java/lang/invoke/VarHandle" ∧ (parseMethodDescriptor yX6_many.desc).map (fun d => d.parameters.length) = some 1 := by decide +kernel
abbrev rm_X6_keep : Room := { frames := 2, cells := 0, slots := 0, locals := 81 }
theorem hdX6_keep : yX6_keep.cls = RX6 ∧ yX6_keep.cls ≠ "java/lang/invoke/MethodHandle" ∧ yX6_keep.cls ≠ "java/lang/invoke/VarHandle" ∧ (parseMethodDescriptor yX6_keep.desc).map (fun d => d.parameters.length) = some 0 := by decide +kernel
abbrev rm_X6_again : Room := { frames := 2, cells := 0, slots := 0, locals := 81 }
theorem hdX6_again : yX6_again.cls = RX6 ∧ yX6_again.cls ≠ "java/lang/invoke/MethodHandle" ∧ yX6_again.cls ≠ "java/lang/invoke/VarHandle" ∧ (parseMethodDescriptor yX6_again.desc).map (fun d => d.parameters.length) = some 0 := by decide +kernel
abbrev rm_X7_in : Room := { frames := 0, cells := 0, slots := 0, locals := 0 }
theorem hdX7_in : yX7_in.cls ≠ "java/lang/invoke/MethodHandle" ∧ yX7_in.cls ≠ "java/lang/invoke/VarHandle" ∧ (parseMethodDescriptor yX7_in.desc).map (fun d => d.parameters.length) = some 3 := by decide +kernel
abbrev rm_X7_size : Room := { frames := 1, cells := 0, slots := 0, locals := 25 }
theorem hdX7_size : yX7_size.cls = RX7 ∧ yX7_size.cls ≠ "java/lang/invoke/MethodHandle" ∧ yX7_size.cls ≠ "java/lang/invoke/VarHandle" ∧ (parseMethodDescriptor yX7_size.desc).map (fun d => d.parameters.length) = some 2 := by decide +kernel
abbrev rm_X7_isEntry : Room := { frames := 1, cells := 0, slots := 0, locals := 25 }
theorem hdX7_isEntry : yX7_isEntry.cls ≠ "java/lang/invoke/MethodHandle" ∧ yX7_isEntry.cls ≠ "java/lang/invoke/VarHandle" ∧ (parseMethodDescriptor yX7_isEntry.desc).map (fun d => d.parameters.length) = some 2 := by decide +kernel
abbrev rm_X7_columnsOf : Room := { frames := 0, cells := 0, slots := 0, locals := 0 }
theorem hdX7_columnsOf : yX7_columnsOf.cls = RX7 ∧ yX7_columnsOf.cls ≠ "java/lang/invoke/MethodHandle" ∧ yX7_columnsOf.cls ≠ "java/lang/invoke/VarHandle" ∧ (parseMethodDescriptor yX7_columnsOf.desc).map (fun d => d.parameters.length) = some 1 := by decide +kernel
abbrev rm_X7_rowsOf : Room := { frames := 0, cells := 0, slots := 0, locals := 0 }
theorem hdX7_rowsOf : yX7_rowsOf.cls = RX7 ∧ yX7_rowsOf.cls ≠ "java/lang/invoke/MethodHandle" ∧ yX7_rowsOf.cls ≠ "java/lang/invoke/VarHandle" ∧ (parseMethodDescriptor yX7_rowsOf.desc).map (fun d => d.parameters.length) = some 1 := by decide +kernel
abbrev rm_X7_isPlace : Room := { frames := 1, cells := 0, slots := 0, locals := 25 }
theorem hdX7_isPlace : yX7_isPlace.cls = RX7 ∧ yX7_isPlace.cls ≠ "java/lang/invoke/MethodHandle" ∧ yX7_isPlace.cls ≠ "java/lang/invoke/VarHandle" ∧ (parseMethodDescriptor yX7_isPlace.desc).map (fun d => d.parameters.length) = some 3 := by decide +kernel
abbrev rm_X7_its : Room := { frames := 0, cells := 0, slots := 0, locals := 0 }
theorem hdX7_its : yX7_its.cls = RX7 ∧ yX7_its.cls ≠ "java/lang/invoke/MethodHandle" ∧ yX7_its.cls ≠ "java/lang/invoke/VarHandle" ∧ (parseMethodDescriptor yX7_its.desc).map (fun d => d.parameters.length) = some 3 := by decide +kernel
abbrev rm_X7_set : Room := { frames := 2, cells := 0, slots := 0, locals := 48 }
theorem hdX7_set : yX7_set.cls = RX7 ∧ yX7_set.cls ≠ "java/lang/invoke/MethodHandle" ∧ yX7_set.cls ≠ "java/lang/invoke/VarHandle" ∧ (parseMethodDescriptor yX7_set.desc).map (fun d => d.parameters.length) = some 4 := by decide +kernel
abbrev rm_X7_at : Room := { frames := 2, cells := 0, slots := 0, locals := 48 }
theorem hdX7_at : yX7_at.cls = RX7 ∧ yX7_at.cls ≠ "java/lang/invoke/MethodHandle" ∧ yX7_at.cls ≠ "java/lang/invoke/VarHandle" ∧ (parseMethodDescriptor yX7_at.desc).map (fun d => d.parameters.length) = some 3 := by decide +kernel
abbrev rm_X7_cross : Room := { frames := 1, cells := 0, slots := 0, locals := 23 }
theorem hdX7_cross : yX7_cross.cls = RX7 ∧ yX7_cross.cls ≠ "java/lang/invoke/MethodHandle" ∧ yX7_cross.cls ≠ "java/lang/invoke/VarHandle" ∧ (parseMethodDescriptor yX7_cross.desc).map (fun d => d.parameters.length) = some 5 := by decide +kernel
abbrev rm_X7_detOf : Room := { frames := 2, cells := 0, slots := 0, locals := 48 }
theorem hdX7_detOf : yX7_detOf.cls = RX7 ∧ yX7_detOf.cls ≠ "java/lang/invoke/MethodHandle" ∧ yX7_detOf.cls ≠ "java/lang/invoke/VarHandle" ∧ (parseMethodDescriptor yX7_detOf.desc).map (fun d => d.parameters.length) = some 1 := by decide +kernel
abbrev rm_X7_told : Room := { frames := 0, cells := 0, slots := 0, locals := 0 }
theorem hdX7_told : yX7_told.cls ≠ "java/lang/invoke/MethodHandle" ∧ yX7_told.cls ≠ "java/lang/invoke/VarHandle" ∧ (parseMethodDescriptor yX7_told.desc).map (fun d => d.parameters.length) = some 1 := by decide +kernel
abbrev rm_X7_det : Room := { frames := 3, cells := 0, slots := 0, locals := 70 }
theorem hdX7_det : yX7_det.cls = RX7 ∧ yX7_det.cls ≠ "java/lang/invoke/MethodHandle" ∧ yX7_det.cls ≠ "java/lang/invoke/VarHandle" ∧ (parseMethodDescriptor yX7_det.desc).map (fun d => d.parameters.length) = some 1 := by decide +kernel
abbrev rm_X7_sumDown : Room := { frames := 1, cells := 0, slots := 0, locals := 23 }
theorem hdX7_sumDown : yX7_sumDown.cls = RX7 ∧ yX7_sumDown.cls ≠ "java/lang/invoke/MethodHandle" ∧ yX7_sumDown.cls ≠ "java/lang/invoke/VarHandle" ∧ (parseMethodDescriptor yX7_sumDown.desc).map (fun d => d.parameters.length) = some 1 := by decide +kernel
abbrev rm_X7_diagonal : Room := { frames := 2, cells := 0, slots := 0, locals := 47 }
theorem hdX7_diagonal : yX7_diagonal.cls = RX7 ∧ yX7_diagonal.cls ≠ "java/lang/invoke/MethodHandle" ∧ yX7_diagonal.cls ≠ "java/lang/invoke/VarHandle" ∧ (parseMethodDescriptor yX7_diagonal.desc).map (fun d => d.parameters.length) = some 1 := by decide +kernel
abbrev rm_X7_pairs : Room := { frames := 2, cells := 0, slots := 0, locals := 48 }
theorem hdX7_pairs : yX7_pairs.cls = RX7 ∧ yX7_pairs.cls ≠ "java/lang/invoke/MethodHandle" ∧ yX7_pairs.cls ≠ "java/lang/invoke/VarHandle" ∧ (parseMethodDescriptor yX7_pairs.desc).map (fun d => d.parameters.length) = some 1 := by decide +kernel
abbrev rm_X7_character : Room := { frames := 3, cells := 0, slots := 0, locals := 73 }
theorem hdX7_character : yX7_character.cls = RX7 ∧ yX7_character.cls ≠ "java/lang/invoke/MethodHandle" ∧ yX7_character.cls ≠ "java/lang/invoke/VarHandle" ∧ (parseMethodDescriptor yX7_character.desc).map (fun d => d.parameters.length) = some 2 := by decide +kernel
abbrev rm_X7_feed : Room := { frames := 1, cells := 0, slots := 0, locals := 25 }
theorem hdX7_feed : yX7_feed.cls = RX7 ∧ yX7_feed.cls ≠ "java/lang/invoke/MethodHandle" ∧ yX7_feed.cls ≠ "java/lang/invoke/VarHandle" ∧ (parseMethodDescriptor yX7_feed.desc).map (fun d => d.parameters.length) = some 2 := by decide +kernel
abbrev rm_X7_isDigit : Room := { frames := 0, cells := 0, slots := 0, locals := 0 }
theorem hdX7_isDigit : yX7_isDigit.cls ≠ "java/lang/invoke/MethodHandle" ∧ yX7_isDigit.cls ≠ "java/lang/invoke/VarHandle" ∧ (parseMethodDescriptor yX7_isDigit.desc).map (fun d => d.parameters.length) = some 1 := by decide +kernel
abbrev rm_X7_isLetter : Room := { frames := 0, cells := 0, slots := 0, locals := 0 }
theorem hdX7_isLetter : yX7_isLetter.cls ≠ "java/lang/invoke/MethodHandle" ∧ yX7_isLetter.cls ≠ "java/lang/invoke/VarHandle" ∧ (parseMethodDescriptor yX7_isLetter.desc).map (fun d => d.parameters.length) = some 1 := by decide +kernel
abbrev rm_X7_next : Room := { frames := 1, cells := 0, slots := 0, locals := 20 }
theorem hdX7_next : yX7_next.cls = RX7 ∧ yX7_next.cls ≠ "java/lang/invoke/MethodHandle" ∧ yX7_next.cls ≠ "java/lang/invoke/VarHandle" ∧ (parseMethodDescriptor yX7_next.desc).map (fun d => d.parameters.length) = some 0 := by decide +kernel
abbrev rm_X7_saves : Room := { frames := 0, cells := 0, slots := 0, locals := 0 }
theorem hdX7_saves : yX7_saves.cls = RX7 ∧ yX7_saves.cls ≠ "java/lang/invoke/MethodHandle" ∧ yX7_saves.cls ≠ "java/lang/invoke/VarHandle" ∧ (parseMethodDescriptor yX7_saves.desc).map (fun d => d.parameters.length) = some 2 := by decide +kernel
abbrev rm_X7_fails : Room := { frames := 0, cells := 0, slots := 0, locals := 0 }
theorem hdX7_fails : yX7_fails.cls = RX7 ∧ yX7_fails.cls ≠ "java/lang/invoke/MethodHandle" ∧ yX7_fails.cls ≠ "java/lang/invoke/VarHandle" ∧ (parseMethodDescriptor yX7_fails.desc).map (fun d => d.parameters.length) = some 0 := by decide +kernel
abbrev rm_X7_is : Room := { frames := 0, cells := 0, slots := 0, locals := 0 }
theorem hdX7_is : yX7_is.cls = RX7 ∧ yX7_is.cls ≠ "java/lang/invoke/MethodHandle" ∧ yX7_is.cls ≠ "java/lang/invoke/VarHandle" ∧ (parseMethodDescriptor yX7_is.desc).map (fun d => d.parameters.length) = some 1 := by decide +kernel
abbrev rm_X7_entryOf : Room := { frames := 2, cells := 0, slots := 0, locals := 46 }
theorem hdX7_entryOf : yX7_entryOf.cls = RX7 ∧ yX7_entryOf.cls ≠ "java/lang/invoke/MethodHandle" ∧ yX7_entryOf.cls ≠ "java/lang/invoke/VarHandle" ∧ (parseMethodDescriptor yX7_entryOf.desc).map (fun d => d.parameters.length) = some 3 := by decide +kernel
abbrev rm_X7_table : Room := { frames := 3, cells := 0, slots := 0, locals := 72 }
theorem hdX7_table : yX7_table.cls = RX7 ∧ yX7_table.cls ≠ "java/lang/invoke/MethodHandle" ∧ yX7_table.cls ≠ "java/lang/invoke/VarHandle" ∧ (parseMethodDescriptor yX7_table.desc).map (fun d => d.parameters.length) = some 0 := by decide +kernel
abbrev rm_X7_text : Room := { frames := 4, cells := 0, slots := 0, locals := 95 }
theorem hdX7_text : yX7_text.cls = RX7 ∧ yX7_text.cls ≠ "java/lang/invoke/MethodHandle" ∧ yX7_text.cls ≠ "java/lang/invoke/VarHandle" ∧ (parseMethodDescriptor yX7_text.desc).map (fun d => d.parameters.length) = some 0 := by decide +kernel
abbrev rm_X7_isKind : Room := { frames := 1, cells := 0, slots := 0, locals := 25 }
theorem hdX7_isKind : yX7_isKind.cls ≠ "java/lang/invoke/MethodHandle" ∧ yX7_isKind.cls ≠ "java/lang/invoke/VarHandle" ∧ (parseMethodDescriptor yX7_isKind.desc).map (fun d => d.parameters.length) = some 1 := by decide +kernel
abbrev rm_X7_equation : Room := { frames := 2, cells := 0, slots := 0, locals := 45 }
theorem hdX7_equation : yX7_equation.cls = RX7 ∧ yX7_equation.cls ≠ "java/lang/invoke/MethodHandle" ∧ yX7_equation.cls ≠ "java/lang/invoke/VarHandle" ∧ (parseMethodDescriptor yX7_equation.desc).map (fun d => d.parameters.length) = some 2 := by decide +kernel
abbrev rm_X7_freeOnes : Room := { frames := 0, cells := 0, slots := 0, locals := 0 }
theorem hdX7_freeOnes : yX7_freeOnes.cls = RX7 ∧ yX7_freeOnes.cls ≠ "java/lang/invoke/MethodHandle" ∧ yX7_freeOnes.cls ≠ "java/lang/invoke/VarHandle" ∧ (parseMethodDescriptor yX7_freeOnes.desc).map (fun d => d.parameters.length) = some 0 := by decide +kernel
abbrev rm_X7_isEquation : Room := { frames := 1, cells := 0, slots := 0, locals := 25 }
theorem hdX7_isEquation : yX7_isEquation.cls = RX7 ∧ yX7_isEquation.cls ≠ "java/lang/invoke/MethodHandle" ∧ yX7_isEquation.cls ≠ "java/lang/invoke/VarHandle" ∧ (parseMethodDescriptor yX7_isEquation.desc).map (fun d => d.parameters.length) = some 1 := by decide +kernel
abbrev rm_X7_isLike : Room := { frames := 0, cells := 0, slots := 0, locals := 0 }
theorem hdX7_isLike : yX7_isLike.cls = RX7 ∧ yX7_isLike.cls ≠ "java/lang/invoke/MethodHandle" ∧ yX7_isLike.cls ≠ "java/lang/invoke/VarHandle" ∧ (parseMethodDescriptor yX7_isLike.desc).map (fun d => d.parameters.length) = some 1 := by decide +kernel
abbrev rm_X7_isUnknown : Room := { frames := 0, cells := 0, slots := 0, locals := 0 }
theorem hdX7_isUnknown : yX7_isUnknown.cls ≠ "java/lang/invoke/MethodHandle" ∧ yX7_isUnknown.cls ≠ "java/lang/invoke/VarHandle" ∧ (parseMethodDescriptor yX7_isUnknown.desc).map (fun d => d.parameters.length) = some 3 := by decide +kernel
abbrev rm_X7_unknownsOf : Room := { frames := 1, cells := 0, slots := 0, locals := 22 }
theorem hdX7_unknownsOf : yX7_unknownsOf.cls = RX7 ∧ yX7_unknownsOf.cls ≠ "java/lang/invoke/MethodHandle" ∧ yX7_unknownsOf.cls ≠ "java/lang/invoke/VarHandle" ∧ (parseMethodDescriptor yX7_unknownsOf.desc).map (fun d => d.parameters.length) = some 1 := by decide +kernel
abbrev rm_X7_isFit : Room := { frames := 2, cells := 0, slots := 0, locals := 45 }
theorem hdX7_isFit : yX7_isFit.cls = RX7 ∧ yX7_isFit.cls ≠ "java/lang/invoke/MethodHandle" ∧ yX7_isFit.cls ≠ "java/lang/invoke/VarHandle" ∧ (parseMethodDescriptor yX7_isFit.desc).map (fun d => d.parameters.length) = some 1 := by decide +kernel
abbrev rm_X7_isSolved : Room := { frames := 0, cells := 0, slots := 0, locals := 0 }
theorem hdX7_isSolved : yX7_isSolved.cls = RX7 ∧ yX7_isSolved.cls ≠ "java/lang/invoke/MethodHandle" ∧ yX7_isSolved.cls ≠ "java/lang/invoke/VarHandle" ∧ (parseMethodDescriptor yX7_isSolved.desc).map (fun d => d.parameters.length) = some 0 := by decide +kernel
abbrev rm_X7_shaped : Room := { frames := 0, cells := 0, slots := 0, locals := 0 }
theorem hdX7_shaped : yX7_shaped.cls ≠ "java/lang/invoke/MethodHandle" ∧ yX7_shaped.cls ≠ "java/lang/invoke/VarHandle" ∧ (parseMethodDescriptor yX7_shaped.desc).map (fun d => d.parameters.length) = some 5 := by decide +kernel
abbrev rm_X7_rightOf : Room := { frames := 1, cells := 0, slots := 0, locals := 23 }
theorem hdX7_rightOf : yX7_rightOf.cls = RX7 ∧ yX7_rightOf.cls ≠ "java/lang/invoke/MethodHandle" ∧ yX7_rightOf.cls ≠ "java/lang/invoke/VarHandle" ∧ (parseMethodDescriptor yX7_rightOf.desc).map (fun d => d.parameters.length) = some 3 := by decide +kernel
abbrev rm_X7_times0 : Room := { frames := 2, cells := 0, slots := 0, locals := 46 }
theorem hdX7_times0 : yX7_times0.cls = RX7 ∧ yX7_times0.cls ≠ "java/lang/invoke/MethodHandle" ∧ yX7_times0.cls ≠ "java/lang/invoke/VarHandle" ∧ (parseMethodDescriptor yX7_times0.desc).map (fun d => d.parameters.length) = some 6 := by decide +kernel
abbrev rm_X7_takenBy : Room := { frames := 3, cells := 0, slots := 0, locals := 72 }
theorem hdX7_takenBy : yX7_takenBy.cls = RX7 ∧ yX7_takenBy.cls ≠ "java/lang/invoke/MethodHandle" ∧ yX7_takenBy.cls ≠ "java/lang/invoke/VarHandle" ∧ (parseMethodDescriptor yX7_takenBy.desc).map (fun d => d.parameters.length) = some 5 := by decide +kernel
abbrev rm_X7_clears : Room := { frames := 0, cells := 0, slots := 0, locals := 0 }
theorem hdX7_clears : yX7_clears.cls = RX7 ∧ yX7_clears.cls ≠ "java/lang/invoke/MethodHandle" ∧ yX7_clears.cls ≠ "java/lang/invoke/VarHandle" ∧ (parseMethodDescriptor yX7_clears.desc).map (fun d => d.parameters.length) = some 2 := by decide +kernel
abbrev rm_X7_swaps : Room := { frames := 0, cells := 0, slots := 0, locals := 0 }
theorem hdX7_swaps : yX7_swaps.cls = RX7 ∧ yX7_swaps.cls ≠ "java/lang/invoke/MethodHandle" ∧ yX7_swaps.cls ≠ "java/lang/invoke/VarHandle" ∧ (parseMethodDescriptor yX7_swaps.desc).map (fun d => d.parameters.length) = some 2 := by decide +kernel
abbrev rm_X7_works : Room := { frames := 1, cells := 0, slots := 0, locals := 28 }
theorem hdX7_works : yX7_works.cls = RX7 ∧ yX7_works.cls ≠ "java/lang/invoke/MethodHandle" ∧ yX7_works.cls ≠ "java/lang/invoke/VarHandle" ∧ (parseMethodDescriptor yX7_works.desc).map (fun d => d.parameters.length) = some 0 := by decide +kernel
abbrev rm_X7_sets : Room := { frames := 4, cells := 0, slots := 0, locals := 100 }
theorem hdX7_sets : yX7_sets.cls = RX7 ∧ yX7_sets.cls ≠ "java/lang/invoke/MethodHandle" ∧ yX7_sets.cls ≠ "java/lang/invoke/VarHandle" ∧ (parseMethodDescriptor yX7_sets.desc).map (fun d => d.parameters.length) = some 4 := by decide +kernel
abbrev rm_X7_setsUp : Room := { frames := 5, cells := 0, slots := 0, locals := 128 }
theorem hdX7_setsUp : yX7_setsUp.cls = RX7 ∧ yX7_setsUp.cls ≠ "java/lang/invoke/MethodHandle" ∧ yX7_setsUp.cls ≠ "java/lang/invoke/VarHandle" ∧ (parseMethodDescriptor yX7_setsUp.desc).map (fun d => d.parameters.length) = some 1 := by decide +kernel
abbrev rm_X7_of : Room := { frames := 6, cells := 0, slots := 0, locals := 149 }
theorem hdX7_of : yX7_of.cls = RX7 ∧ yX7_of.cls ≠ "java/lang/invoke/MethodHandle" ∧ yX7_of.cls ≠ "java/lang/invoke/VarHandle" ∧ (parseMethodDescriptor yX7_of.desc).map (fun d => d.parameters.length) = some 2 := by decide +kernel
abbrev rm_X7_change : Room := { frames := 2, cells := 0, slots := 0, locals := 46 }
theorem hdX7_change : yX7_change.cls = RX7 ∧ yX7_change.cls ≠ "java/lang/invoke/MethodHandle" ∧ yX7_change.cls ≠ "java/lang/invoke/VarHandle" ∧ (parseMethodDescriptor yX7_change.desc).map (fun d => d.parameters.length) = some 3 := by decide +kernel
abbrev rm_X7_right : Room := { frames := 2, cells := 0, slots := 0, locals := 46 }
theorem hdX7_right : yX7_right.cls = RX7 ∧ yX7_right.cls ≠ "java/lang/invoke/MethodHandle" ∧ yX7_right.cls ≠ "java/lang/invoke/VarHandle" ∧ (parseMethodDescriptor yX7_right.desc).map (fun d => d.parameters.length) = some 3 := by decide +kernel
abbrev rm_X7_isPart : Room := { frames := 2, cells := 0, slots := 0, locals := 46 }
theorem hdX7_isPart : yX7_isPart.cls = RX7 ∧ yX7_isPart.cls ≠ "java/lang/invoke/MethodHandle" ∧ yX7_isPart.cls ≠ "java/lang/invoke/VarHandle" ∧ (parseMethodDescriptor yX7_isPart.desc).map (fun d => d.parameters.length) = some 4 := by decide +kernel
abbrev rm_X7_common : Room := { frames := 0, cells := 0, slots := 0, locals := 0 }
theorem hdX7_common : yX7_common.cls ≠ "java/lang/invoke/MethodHandle" ∧ yX7_common.cls ≠ "java/lang/invoke/VarHandle" ∧ (parseMethodDescriptor yX7_common.desc).map (fun d => d.parameters.length) = some 2 := by decide +kernel
abbrev rm_X7_partOf : Room := { frames := 1, cells := 0, slots := 0, locals := 29 }
theorem hdX7_partOf : yX7_partOf.cls ≠ "java/lang/invoke/MethodHandle" ∧ yX7_partOf.cls ≠ "java/lang/invoke/VarHandle" ∧ (parseMethodDescriptor yX7_partOf.desc).map (fun d => d.parameters.length) = some 3 := by decide +kernel
abbrev rm_X7_shapedSum : Room := { frames := 1, cells := 0, slots := 0, locals := 25 }
theorem hdX7_shapedSum : yX7_shapedSum.cls = RX7 ∧ yX7_shapedSum.cls ≠ "java/lang/invoke/MethodHandle" ∧ yX7_shapedSum.cls ≠ "java/lang/invoke/VarHandle" ∧ (parseMethodDescriptor yX7_shapedSum.desc).map (fun d => d.parameters.length) = some 4 := by decide +kernel
abbrev rm_X7_solution : Room := { frames := 6, cells := 0, slots := 0, locals := 149 }
theorem hdX7_solution : yX7_solution.cls = RX7 ∧ yX7_solution.cls ≠ "java/lang/invoke/MethodHandle" ∧ yX7_solution.cls ≠ "java/lang/invoke/VarHandle" ∧ (parseMethodDescriptor yX7_solution.desc).map (fun d => d.parameters.length) = some 4 := by decide +kernel
abbrev rm_X7_base : Room := { frames := 6, cells := 0, slots := 0, locals := 149 }
theorem hdX7_base : yX7_base.cls = RX7 ∧ yX7_base.cls ≠ "java/lang/invoke/MethodHandle" ∧ yX7_base.cls ≠ "java/lang/invoke/VarHandle" ∧ (parseMethodDescriptor yX7_base.desc).map (fun d => d.parameters.length) = some 5 := by decide +kernel
abbrev rm_X7_clearsRules : Room := { frames := 0, cells := 0, slots := 0, locals := 0 }
theorem hdX7_clearsRules : yX7_clearsRules.cls = RX7 ∧ yX7_clearsRules.cls ≠ "java/lang/invoke/MethodHandle" ∧ yX7_clearsRules.cls ≠ "java/lang/invoke/VarHandle" ∧ (parseMethodDescriptor yX7_clearsRules.desc).map (fun d => d.parameters.length) = some 4 := by decide +kernel
abbrev rm_X7_swapsRules : Room := { frames := 0, cells := 0, slots := 0, locals := 0 }
theorem hdX7_swapsRules : yX7_swapsRules.cls = RX7 ∧ yX7_swapsRules.cls ≠ "java/lang/invoke/MethodHandle" ∧ yX7_swapsRules.cls ≠ "java/lang/invoke/VarHandle" ∧ (parseMethodDescriptor yX7_swapsRules.desc).map (fun d => d.parameters.length) = some 2 := by decide +kernel
abbrev rm_X7_worksRules : Room := { frames := 4, cells := 0, slots := 0, locals := 100 }
theorem hdX7_worksRules : yX7_worksRules.cls = RX7 ∧ yX7_worksRules.cls ≠ "java/lang/invoke/MethodHandle" ∧ yX7_worksRules.cls ≠ "java/lang/invoke/VarHandle" ∧ (parseMethodDescriptor yX7_worksRules.desc).map (fun d => d.parameters.length) = some 2 := by decide +kernel
abbrev rm_X7_witness : Room := { frames := 5, cells := 0, slots := 0, locals := 128 }
theorem hdX7_witness : yX7_witness.cls = RX7 ∧ yX7_witness.cls ≠ "java/lang/invoke/MethodHandle" ∧ yX7_witness.cls ≠ "java/lang/invoke/VarHandle" ∧ (parseMethodDescriptor yX7_witness.desc).map (fun d => d.parameters.length) = some 4 := by decide +kernel
abbrev rm_X7_isSmall : Room := { frames := 1, cells := 0, slots := 0, locals := 21 }
theorem hdX7_isSmall : yX7_isSmall.cls = RX7 ∧ yX7_isSmall.cls ≠ "java/lang/invoke/MethodHandle" ∧ yX7_isSmall.cls ≠ "java/lang/invoke/VarHandle" ∧ (parseMethodDescriptor yX7_isSmall.desc).map (fun d => d.parameters.length) = some 1 := by decide +kernel
abbrev rm_X7_similar : Room := { frames := 5, cells := 0, slots := 0, locals := 128 }
theorem hdX7_similar : yX7_similar.cls = RX7 ∧ yX7_similar.cls ≠ "java/lang/invoke/MethodHandle" ∧ yX7_similar.cls ≠ "java/lang/invoke/VarHandle" ∧ (parseMethodDescriptor yX7_similar.desc).map (fun d => d.parameters.length) = some 1 := by decide +kernel
abbrev rm_X7_whole : Room := { frames := 5, cells := 0, slots := 0, locals := 128 }
theorem hdX7_whole : yX7_whole.cls = RX7 ∧ yX7_whole.cls ≠ "java/lang/invoke/MethodHandle" ∧ yX7_whole.cls ≠ "java/lang/invoke/VarHandle" ∧ (parseMethodDescriptor yX7_whole.desc).map (fun d => d.parameters.length) = some 1 := by decide +kernel
abbrev rm_X7_splits : Room := { frames := 1, cells := 0, slots := 0, locals := 23 }
theorem hdX7_splits : yX7_splits.cls = RX7 ∧ yX7_splits.cls ≠ "java/lang/invoke/MethodHandle" ∧ yX7_splits.cls ≠ "java/lang/invoke/VarHandle" ∧ (parseMethodDescriptor yX7_splits.desc).map (fun d => d.parameters.length) = some 1 := by decide +kernel
abbrev rm_X7_lower : Room := { frames := 5, cells := 0, slots := 0, locals := 128 }
theorem hdX7_lower : yX7_lower.cls = RX7 ∧ yX7_lower.cls ≠ "java/lang/invoke/MethodHandle" ∧ yX7_lower.cls ≠ "java/lang/invoke/VarHandle" ∧ (parseMethodDescriptor yX7_lower.desc).map (fun d => d.parameters.length) = some 2 := by decide +kernel
abbrev rm_X7_swapped : Room := { frames := 2, cells := 0, slots := 0, locals := 47 }
theorem hdX7_swapped : yX7_swapped.cls = RX7 ∧ yX7_swapped.cls ≠ "java/lang/invoke/MethodHandle" ∧ yX7_swapped.cls ≠ "java/lang/invoke/VarHandle" ∧ (parseMethodDescriptor yX7_swapped.desc).map (fun d => d.parameters.length) = some 0 := by decide +kernel
abbrev rm_X7_stable : Room := { frames := 3, cells := 0, slots := 0, locals := 73 }
theorem hdX7_stable : yX7_stable.cls = RX7 ∧ yX7_stable.cls ≠ "java/lang/invoke/MethodHandle" ∧ yX7_stable.cls ≠ "java/lang/invoke/VarHandle" ∧ (parseMethodDescriptor yX7_stable.desc).map (fun d => d.parameters.length) = some 0 := by decide +kernel
abbrev rm_X7_isSheet : Room := { frames := 1, cells := 0, slots := 0, locals := 25 }
theorem hdX7_isSheet : yX7_isSheet.cls ≠ "java/lang/invoke/MethodHandle" ∧ yX7_isSheet.cls ≠ "java/lang/invoke/VarHandle" ∧ (parseMethodDescriptor yX7_isSheet.desc).map (fun d => d.parameters.length) = some 1 := by decide +kernel
abbrev rm_X7_leastScale : Room := { frames := 2, cells := 0, slots := 0, locals := 55 }
theorem hdX7_leastScale : yX7_leastScale.cls = RX7 ∧ yX7_leastScale.cls ≠ "java/lang/invoke/MethodHandle" ∧ yX7_leastScale.cls ≠ "java/lang/invoke/VarHandle" ∧ (parseMethodDescriptor yX7_leastScale.desc).map (fun d => d.parameters.length) = some 1 := by decide +kernel
abbrev rm_X7_lay : Room := { frames := 6, cells := 0, slots := 0, locals := 149 }
theorem hdX7_lay : yX7_lay.cls = RX7 ∧ yX7_lay.cls ≠ "java/lang/invoke/MethodHandle" ∧ yX7_lay.cls ≠ "java/lang/invoke/VarHandle" ∧ (parseMethodDescriptor yX7_lay.desc).map (fun d => d.parameters.length) = some 2 := by decide +kernel
abbrev rm_X7_against : Room := { frames := 0, cells := 0, slots := 0, locals := 0 }
theorem hdX7_against : yX7_against.cls = RX7 ∧ yX7_against.cls ≠ "java/lang/invoke/MethodHandle" ∧ yX7_against.cls ≠ "java/lang/invoke/VarHandle" ∧ (parseMethodDescriptor yX7_against.desc).map (fun d => d.parameters.length) = some 1 := by decide +kernel
abbrev rm_X7_firstOff : Room := { frames := 3, cells := 0, slots := 0, locals := 72 }
theorem hdX7_firstOff : yX7_firstOff.cls = RX7 ∧ yX7_firstOff.cls ≠ "java/lang/invoke/MethodHandle" ∧ yX7_firstOff.cls ≠ "java/lang/invoke/VarHandle" ∧ (parseMethodDescriptor yX7_firstOff.desc).map (fun d => d.parameters.length) = some 4 := by decide +kernel
abbrev rm_X7_isShaped : Room := { frames := 0, cells := 0, slots := 0, locals := 0 }
theorem hdX7_isShaped : yX7_isShaped.cls = RX7 ∧ yX7_isShaped.cls ≠ "java/lang/invoke/MethodHandle" ∧ yX7_isShaped.cls ≠ "java/lang/invoke/VarHandle" ∧ (parseMethodDescriptor yX7_isShaped.desc).map (fun d => d.parameters.length) = some 2 := by decide +kernel
abbrev rm_X7_judge : Room := { frames := 4, cells := 0, slots := 0, locals := 100 }
theorem hdX7_judge : yX7_judge.cls = RX7 ∧ yX7_judge.cls ≠ "java/lang/invoke/MethodHandle" ∧ yX7_judge.cls ≠ "java/lang/invoke/VarHandle" ∧ (parseMethodDescriptor yX7_judge.desc).map (fun d => d.parameters.length) = some 3 := by decide +kernel
abbrev rm_X7_kinds : Room := { frames := 4, cells := 0, slots := 0, locals := 100 }
theorem hdX7_kinds : yX7_kinds.cls = RX7 ∧ yX7_kinds.cls ≠ "java/lang/invoke/MethodHandle" ∧ yX7_kinds.cls ≠ "java/lang/invoke/VarHandle" ∧ (parseMethodDescriptor yX7_kinds.desc).map (fun d => d.parameters.length) = some 2 := by decide +kernel
abbrev rm_X7_ratio : Room := { frames := 1, cells := 0, slots := 0, locals := 25 }
theorem hdX7_ratio : yX7_ratio.cls = RX7 ∧ yX7_ratio.cls ≠ "java/lang/invoke/MethodHandle" ∧ yX7_ratio.cls ≠ "java/lang/invoke/VarHandle" ∧ (parseMethodDescriptor yX7_ratio.desc).map (fun d => d.parameters.length) = some 3 := by decide +kernel
abbrev rm_X7_seed : Room := { frames := 0, cells := 0, slots := 0, locals := 0 }
theorem hdX7_seed : yX7_seed.cls = RX7 ∧ yX7_seed.cls ≠ "java/lang/invoke/MethodHandle" ∧ yX7_seed.cls ≠ "java/lang/invoke/VarHandle" ∧ (parseMethodDescriptor yX7_seed.desc).map (fun d => d.parameters.length) = some 1 := by decide +kernel
abbrev rm_X7_lots : Room := { frames := 1, cells := 0, slots := 0, locals := 21 }
theorem hdX7_lots : yX7_lots.cls = RX7 ∧ yX7_lots.cls ≠ "java/lang/invoke/MethodHandle" ∧ yX7_lots.cls ≠ "java/lang/invoke/VarHandle" ∧ (parseMethodDescriptor yX7_lots.desc).map (fun d => d.parameters.length) = some 0 := by decide +kernel
abbrev rm_X7_lot : Room := { frames := 2, cells := 0, slots := 0, locals := 44 }
theorem hdX7_lot : yX7_lot.cls = RX7 ∧ yX7_lot.cls ≠ "java/lang/invoke/MethodHandle" ∧ yX7_lot.cls ≠ "java/lang/invoke/VarHandle" ∧ (parseMethodDescriptor yX7_lot.desc).map (fun d => d.parameters.length) = some 0 := by decide +kernel
abbrev rm_X7_times : Room := { frames := 6, cells := 0, slots := 0, locals := 149 }
theorem hdX7_times : yX7_times.cls = RX7 ∧ yX7_times.cls ≠ "java/lang/invoke/MethodHandle" ∧ yX7_times.cls ≠ "java/lang/invoke/VarHandle" ∧ (parseMethodDescriptor yX7_times.desc).map (fun d => d.parameters.length) = some 2 := by decide +kernel
abbrev rm_X7_sheet : Room := { frames := 2, cells := 0, slots := 0, locals := 45 }
theorem hdX7_sheet : yX7_sheet.cls = RX7 ∧ yX7_sheet.cls ≠ "java/lang/invoke/MethodHandle" ∧ yX7_sheet.cls ≠ "java/lang/invoke/VarHandle" ∧ (parseMethodDescriptor yX7_sheet.desc).map (fun d => d.parameters.length) = some 3 := by decide +kernel
abbrev rm_X7_narrowed : Room := { frames := 0, cells := 0, slots := 0, locals := 0 }
theorem hdX7_narrowed : yX7_narrowed.cls ≠ "java/lang/invoke/MethodHandle" ∧ yX7_narrowed.cls ≠ "java/lang/invoke/VarHandle" ∧ (parseMethodDescriptor yX7_narrowed.desc).map (fun d => d.parameters.length) = some 2 := by decide +kernel
abbrev rm_X7_put : Room := { frames := 2, cells := 0, slots := 0, locals := 45 }
theorem hdX7_put : yX7_put.cls = RX7 ∧ yX7_put.cls ≠ "java/lang/invoke/MethodHandle" ∧ yX7_put.cls ≠ "java/lang/invoke/VarHandle" ∧ (parseMethodDescriptor yX7_put.desc).map (fun d => d.parameters.length) = some 3 := by decide +kernel
abbrev rm_X7_item : Room := { frames := 2, cells := 0, slots := 0, locals := 45 }
theorem hdX7_item : yX7_item.cls = RX7 ∧ yX7_item.cls ≠ "java/lang/invoke/MethodHandle" ∧ yX7_item.cls ≠ "java/lang/invoke/VarHandle" ∧ (parseMethodDescriptor yX7_item.desc).map (fun d => d.parameters.length) = some 3 := by decide +kernel
abbrev rm_X7_move : Room := { frames := 2, cells := 0, slots := 0, locals := 45 }
theorem hdX7_move : yX7_move.cls = RX7 ∧ yX7_move.cls ≠ "java/lang/invoke/MethodHandle" ∧ yX7_move.cls ≠ "java/lang/invoke/VarHandle" ∧ (parseMethodDescriptor yX7_move.desc).map (fun d => d.parameters.length) = some 5 := by decide +kernel
abbrev rm_X7_isShelf : Room := { frames := 1, cells := 0, slots := 0, locals := 25 }
theorem hdX7_isShelf : yX7_isShelf.cls ≠ "java/lang/invoke/MethodHandle" ∧ yX7_isShelf.cls ≠ "java/lang/invoke/VarHandle" ∧ (parseMethodDescriptor yX7_isShelf.desc).map (fun d => d.parameters.length) = some 1 := by decide +kernel
abbrev rm_X7_shelf : Room := { frames := 2, cells := 0, slots := 0, locals := 46 }
theorem hdX7_shelf : yX7_shelf.cls = RX7 ∧ yX7_shelf.cls ≠ "java/lang/invoke/MethodHandle" ∧ yX7_shelf.cls ≠ "java/lang/invoke/VarHandle" ∧ (parseMethodDescriptor yX7_shelf.desc).map (fun d => d.parameters.length) = some 3 := by decide +kernel
abbrev rm_X7_heldBy : Room := { frames := 2, cells := 0, slots := 0, locals := 46 }
theorem hdX7_heldBy : yX7_heldBy.cls = RX7 ∧ yX7_heldBy.cls ≠ "java/lang/invoke/MethodHandle" ∧ yX7_heldBy.cls ≠ "java/lang/invoke/VarHandle" ∧ (parseMethodDescriptor yX7_heldBy.desc).map (fun d => d.parameters.length) = some 1 := by decide +kernel
abbrev rm_X7_isUnder : Room := { frames := 0, cells := 0, slots := 0, locals := 0 }
theorem hdX7_isUnder : yX7_isUnder.cls ≠ "java/lang/invoke/MethodHandle" ∧ yX7_isUnder.cls ≠ "java/lang/invoke/VarHandle" ∧ (parseMethodDescriptor yX7_isUnder.desc).map (fun d => d.parameters.length) = some 2 := by decide +kernel
abbrev rm_X7_taken : Room := { frames := 3, cells := 0, slots := 0, locals := 67 }
theorem hdX7_taken : yX7_taken.cls = RX7 ∧ yX7_taken.cls ≠ "java/lang/invoke/MethodHandle" ∧ yX7_taken.cls ≠ "java/lang/invoke/VarHandle" ∧ (parseMethodDescriptor yX7_taken.desc).map (fun d => d.parameters.length) = some 2 := by decide +kernel
abbrev rm_X7_ran : Room := { frames := 0, cells := 0, slots := 0, locals := 0 }
theorem hdX7_ran : yX7_ran.cls = RX7 ∧ yX7_ran.cls ≠ "java/lang/invoke/MethodHandle" ∧ yX7_ran.cls ≠ "java/lang/invoke/VarHandle" ∧ (parseMethodDescriptor yX7_ran.desc).map (fun d => d.parameters.length) = some 1 := by decide +kernel
abbrev rm_X7_plainWeighs : Room := { frames := 1, cells := 0, slots := 0, locals := 21 }
theorem hdX7_plainWeighs : yX7_plainWeighs.cls = RX7 ∧ yX7_plainWeighs.cls ≠ "java/lang/invoke/MethodHandle" ∧ yX7_plainWeighs.cls ≠ "java/lang/invoke/VarHandle" ∧ (parseMethodDescriptor yX7_plainWeighs.desc).map (fun d => d.parameters.length) = some 1 := by decide +kernel
abbrev rm_X7_turnedWeighs : Room := { frames := 2, cells := 0, slots := 0, locals := 42 }
theorem hdX7_turnedWeighs : yX7_turnedWeighs.cls = RX7 ∧ yX7_turnedWeighs.cls ≠ "java/lang/invoke/MethodHandle" ∧ yX7_turnedWeighs.cls ≠ "java/lang/invoke/VarHandle" ∧ (parseMethodDescriptor yX7_turnedWeighs.desc).map (fun d => d.parameters.length) = some 1 := by decide +kernel
abbrev rm_X7_weighs : Room := { frames := 3, cells := 0, slots := 0, locals := 63 }
theorem hdX7_weighs : yX7_weighs.cls = RX7 ∧ yX7_weighs.cls ≠ "java/lang/invoke/MethodHandle" ∧ yX7_weighs.cls ≠ "java/lang/invoke/VarHandle" ∧ (parseMethodDescriptor yX7_weighs.desc).map (fun d => d.parameters.length) = some 1 := by decide +kernel
abbrev rm_X7_parts : Room := { frames := 4, cells := 0, slots := 0, locals := 84 }
theorem hdX7_parts : yX7_parts.cls = RX7 ∧ yX7_parts.cls ≠ "java/lang/invoke/MethodHandle" ∧ yX7_parts.cls ≠ "java/lang/invoke/VarHandle" ∧ (parseMethodDescriptor yX7_parts.desc).map (fun d => d.parameters.length) = some 1 := by decide +kernel
abbrev rm_X7_plainTurns : Room := { frames := 4, cells := 0, slots := 0, locals := 84 }
theorem hdX7_plainTurns : yX7_plainTurns.cls = RX7 ∧ yX7_plainTurns.cls ≠ "java/lang/invoke/MethodHandle" ∧ yX7_plainTurns.cls ≠ "java/lang/invoke/VarHandle" ∧ (parseMethodDescriptor yX7_plainTurns.desc).map (fun d => d.parameters.length) = some 1 := by decide +kernel
abbrev rm_X7_alikeTurns : Room := { frames := 5, cells := 0, slots := 0, locals := 105 }
theorem hdX7_alikeTurns : yX7_alikeTurns.cls = RX7 ∧ yX7_alikeTurns.cls ≠ "java/lang/invoke/MethodHandle" ∧ yX7_alikeTurns.cls ≠ "java/lang/invoke/VarHandle" ∧ (parseMethodDescriptor yX7_alikeTurns.desc).map (fun d => d.parameters.length) = some 1 := by decide +kernel
abbrev rm_X7_turns : Room := { frames := 6, cells := 0, slots := 0, locals := 126 }
theorem hdX7_turns : yX7_turns.cls = RX7 ∧ yX7_turns.cls ≠ "java/lang/invoke/MethodHandle" ∧ yX7_turns.cls ≠ "java/lang/invoke/VarHandle" ∧ (parseMethodDescriptor yX7_turns.desc).map (fun d => d.parameters.length) = some 1 := by decide +kernel
abbrev rm_X7_plainCloses : Room := { frames := 7, cells := 0, slots := 0, locals := 147 }
theorem hdX7_plainCloses : yX7_plainCloses.cls = RX7 ∧ yX7_plainCloses.cls ≠ "java/lang/invoke/MethodHandle" ∧ yX7_plainCloses.cls ≠ "java/lang/invoke/VarHandle" ∧ (parseMethodDescriptor yX7_plainCloses.desc).map (fun d => d.parameters.length) = some 1 := by decide +kernel
abbrev rm_X7_evenCloses : Room := { frames := 8, cells := 0, slots := 0, locals := 169 }
theorem hdX7_evenCloses : yX7_evenCloses.cls = RX7 ∧ yX7_evenCloses.cls ≠ "java/lang/invoke/MethodHandle" ∧ yX7_evenCloses.cls ≠ "java/lang/invoke/VarHandle" ∧ (parseMethodDescriptor yX7_evenCloses.desc).map (fun d => d.parameters.length) = some 1 := by decide +kernel
abbrev rm_X7_closes : Room := { frames := 9, cells := 0, slots := 0, locals := 191 }
theorem hdX7_closes : yX7_closes.cls = RX7 ∧ yX7_closes.cls ≠ "java/lang/invoke/MethodHandle" ∧ yX7_closes.cls ≠ "java/lang/invoke/VarHandle" ∧ (parseMethodDescriptor yX7_closes.desc).map (fun d => d.parameters.length) = some 1 := by decide +kernel
abbrev rm_X7_act : Room := { frames := 10, cells := 0, slots := 0, locals := 212 }
theorem hdX7_act : yX7_act.cls = RX7 ∧ yX7_act.cls ≠ "java/lang/invoke/MethodHandle" ∧ yX7_act.cls ≠ "java/lang/invoke/VarHandle" ∧ (parseMethodDescriptor yX7_act.desc).map (fun d => d.parameters.length) = some 3 := by decide +kernel
abbrev rm_X7_trace : Room := { frames := 1, cells := 0, slots := 0, locals := 25 }
theorem hdX7_trace : yX7_trace.cls = RX7 ∧ yX7_trace.cls ≠ "java/lang/invoke/MethodHandle" ∧ yX7_trace.cls ≠ "java/lang/invoke/VarHandle" ∧ (parseMethodDescriptor yX7_trace.desc).map (fun d => d.parameters.length) = some 1 := by decide +kernel
abbrev rm_X7_fitting : Room := { frames := 3, cells := 0, slots := 0, locals := 66 }
theorem hdX7_fitting : yX7_fitting.cls = RX7 ∧ yX7_fitting.cls ≠ "java/lang/invoke/MethodHandle" ∧ yX7_fitting.cls ≠ "java/lang/invoke/VarHandle" ∧ (parseMethodDescriptor yX7_fitting.desc).map (fun d => d.parameters.length) = some 0 := by decide +kernel
abbrev rm_X7_splitting : Room := { frames := 2, cells := 0, slots := 0, locals := 46 }
theorem hdX7_splitting : yX7_splitting.cls = RX7 ∧ yX7_splitting.cls ≠ "java/lang/invoke/MethodHandle" ∧ yX7_splitting.cls ≠ "java/lang/invoke/VarHandle" ∧ (parseMethodDescriptor yX7_splitting.desc).map (fun d => d.parameters.length) = some 0 := by decide +kernel
abbrev rm_X7_many : Room := { frames := 4, cells := 0, slots := 0, locals := 88 }
theorem hdX7_many : yX7_many.cls = RX7 ∧ yX7_many.cls ≠ "java/lang/invoke/MethodHandle" ∧ yX7_many.cls ≠ "java/lang/invoke/VarHandle" ∧ (parseMethodDescriptor yX7_many.desc).map (fun d => d.parameters.length) = some 1 := by decide +kernel
abbrev rm_X7_keep : Room := { frames := 1, cells := 0, slots := 0, locals := 23 }
theorem hdX7_keep : yX7_keep.cls = RX7 ∧ yX7_keep.cls ≠ "java/lang/invoke/MethodHandle" ∧ yX7_keep.cls ≠ "java/lang/invoke/VarHandle" ∧ (parseMethodDescriptor yX7_keep.desc).map (fun d => d.parameters.length) = some 0 := by decide +kernel
abbrev rm_X7_again : Room := { frames := 1, cells := 0, slots := 0, locals := 23 }
theorem hdX7_again : yX7_again.cls = RX7 ∧ yX7_again.cls ≠ "java/lang/invoke/MethodHandle" ∧ yX7_again.cls ≠ "java/lang/invoke/VarHandle" ∧ (parseMethodDescriptor yX7_again.desc).map (fun d => d.parameters.length) = some 0 := by decide +kernel
theorem gwRX0_26 : GoodIn wsU (wsV RX0 26 RX0 yX0_weighs (wsO yX0_weighs cX0_weighs 3 (some .int))) := goL (m4 mU_1001 mU_1002 mU_1003 mU_30) mU_1004
theorem gwRX0_30 : GoodIn wsU (wsV RX0 30 RX0 yX0_turns (wsO yX0_turns cX0_turns 3 (some .int))) := goL (m4 mU_1011 mU_1012 mU_1013 mU_30) mU_1014
theorem gwRX0_33 : GoodIn wsU (wsV RX0 33 RX0 yX0_parts (wsO yX0_parts cX0_parts 4 (some .int))) := goL (m4 mU_1015 mU_1016 mU_1017 mU_30) mU_1018
theorem gwRX0_36 : GoodIn wsU (wsV RX0 36 RX0 yX0_closes (wsO yX0_closes cX0_closes 3 (some .int))) := goL (m4 mU_1019 mU_1020 mU_1021 mU_30) mU_1022
theorem gwRX0_39 : GoodIn wsU (wsV RX0 39 RX0 yX0_begin (wsO yX0_begin cX0_begin 2 none)) := goL (m4 mU_1007 mU_1008 mU_1009 mU_30) mU_1010
theorem gwRX1_39 : GoodIn wsU (va_wsS RX1 39 yJ7_fill_d0a16 (wsO yJ7_fill_d0a16 cJ7_fill_d0a16 5 none)) := goL (m3 mU_438 mU_439 mU_119) mU_440
theorem gwRX1_45 : GoodIn wsU (wsV RX1 45 RX1 yX1_hasCell (wsO yX1_hasCell cX1_hasCell 3 (some .boolean))) := goL (m4 mU_449 mU_450 mU_451 mU_21) mU_452
theorem gwRX1_49 : GoodIn wsU (wsV RX1 49 RX1 yX1_cell (wsO yX1_cell cX1_cell 3 (some .long))) := goL (m4 mU_445 mU_446 mU_447 mU_21) mU_448
theorem gwRX1_53 : GoodIn wsU (wsV RX1 53 RX1 yX1_write (wsO yX1_write cX1_write 5 none)) := goL (m4 mU_453 mU_454 mU_455 mU_21) mU_456
theorem gwRX1_57 : GoodIn wsU (wsV RX1 57 RX1 yX1_clear (wsO yX1_clear cX1_clear 3 none)) := goL (m4 mU_666 mU_426 mU_427 mU_21) mU_428
theorem gwRX1_68 : GoodIn wsU (wsV RX1 68 RX1 yX1_firstFilled (wsO yX1_firstFilled cX1_firstFilled 3 (some .int))) := goL (m4 mU_485 mU_486 mU_487 mU_21) mU_488
theorem gwRX1_72 : GoodIn wsU (wsV RX1 72 RX1 yX1_swapRows (wsO yX1_swapRows cX1_swapRows 6 none)) := goL (m4 mU_489 mU_490 mU_491 mU_21) mU_492
theorem gwRX1_75 : GoodIn wsU (wsV RX1 75 RX1 yX1_sweep (wsO yX1_sweep cX1_sweep 11 none)) := goL (m4 mU_493 mU_494 mU_495 mU_21) mU_496
theorem gwRX1_78 : GoodIn wsU (wsV RX1 78 RX1 yX1_isFree (wsO yX1_isFree cX1_isFree 2 (some .boolean))) := goL (m4 mU_501 mU_502 mU_503 mU_21) mU_504
theorem gwRX1_82 : GoodIn wsU (wsV RX1 82 RX1 yX1_isPivot (wsO yX1_isPivot cX1_isPivot 2 (some .boolean))) := goL (m4 mU_615 mU_616 mU_617 mU_21) mU_618
theorem gwRX2_31 : GoodIn wsU (va_wsS RX2 31 yJ7_fill_d0a16 (wsO yJ7_fill_d0a16 cJ7_fill_d0a16 5 none)) := goL (m3 mU_768 mU_439 mU_119) mU_440
theorem gwRX2_37 : GoodIn wsU (wsV RX2 37 RX2 yX2_narrowed (wsO yX2_narrowed cX2_narrowed 3 (some .long))) := goL (m4 mU_773 mU_774 mU_775 mU_37) mU_776
theorem gwRX4_46 : GoodIn wsU (va_wsS RX4 46 yJ7_fill_53178 (wsO yJ7_fill_53178 cJ7_fill_53178 4 none)) := goL (m3 mU_117 mU_118 mU_119) mU_120
theorem gwRX4_52 : GoodIn wsU (wsV RX4 52 RX4 yX4_rows (wsO yX4_rows cX4_rows 2 (some .int))) := goL (m4 mU_137 mU_138 mU_139 mU_15) mU_140
theorem gwRX4_56 : GoodIn wsU (wsV RX4 56 RX4 yX4_columns (wsO yX4_columns cX4_columns 2 (some .int))) := goL (m4 mU_141 mU_142 mU_143 mU_15) mU_144
theorem gwRX4_59 : GoodIn wsU (va_wsS RX4 59 yX4_isRoom (wsO yX4_isRoom cX4_isRoom 2 (some .boolean))) := goL (m3 mU_152 mU_153 mU_15) mU_154
theorem gwRX4_63 : GoodIn wsU (wsV RX4 63 RX4 yX4_entry (wsO yX4_entry cX4_entry 5 (some .int))) := goL (m4 mU_208 mU_149 mU_150 mU_15) mU_151
theorem gwRX4_67 : GoodIn wsU (wsV RX4 67 RX4 yX4_minor (wsO yX4_minor cX4_minor 4 (some .long))) := goL (m4 mU_209 mU_210 mU_211 mU_15) mU_212
theorem gwRX4_71 : GoodIn wsU (wsV RX4 71 RX4 yX4_largestMinor (wsO yX4_largestMinor cX4_largestMinor 7 (some .long))) := goL (m4 mU_213 mU_214 mU_215 mU_15) mU_216
theorem gwRX4_75 : GoodIn wsU (wsV RX4 75 RX4 yX4_drawTable (wsO yX4_drawTable cX4_drawTable 4 none)) := goL (m4 mU_865 mU_866 mU_867 mU_15) mU_868
theorem gwRX4_80 : GoodIn wsU (wsV RX4 80 RX4 yX4_store (wsO yX4_store cX4_store 6 none)) := goL (m4 mU_870 mU_156 mU_157 mU_15) mU_158
theorem gwRX4_84 : GoodIn wsU (wsV RX4 84 RX4 yX4_hasEquation (wsO yX4_hasEquation cX4_hasEquation 2 (some .boolean))) := goL (m4 mU_375 mU_376 mU_377 mU_15) mU_378
theorem gwRX4_88 : GoodIn wsU (wsV RX4 88 RX4 yX4_hasRight (wsO yX4_hasRight cX4_hasRight 2 (some .boolean))) := goL (m4 mU_407 mU_408 mU_409 mU_15) mU_410
theorem gwRX4_91 : GoodIn wsU (wsV RX4 91 RX4 yX4_unknowns (wsO yX4_unknowns cX4_unknowns 2 (some .int))) := goL (m4 mU_411 mU_412 mU_413 mU_15) mU_414
theorem gwRX4_94 : GoodIn wsU (wsV RX4 94 RX4 yX4_kindOf (wsO yX4_kindOf cX4_kindOf 2 (some .int))) := goL (m4 mU_1094 mU_396 mU_397 mU_15) mU_398
theorem gwRX4_97 : GoodIn wsU (wsV RX4 97 RX4 yX4_fits (wsO yX4_fits cX4_fits 2 (some .boolean))) := goL (m4 mU_1095 mU_404 mU_405 mU_15) mU_406
theorem gwRX4_100 : GoodIn wsU (wsV RX4 100 RX4 yX4_splits (wsO yX4_splits cX4_splits 4 (some .boolean))) := goL (m4 mU_1100 mU_716 mU_717 mU_15) mU_718
theorem gwRX5_22 : GoodIn wsU (wsV RX5 22 RX5 yX5_skipBlanks (wsO yX5_skipBlanks cX5_skipBlanks 2 none)) := goL (m4 mU_291 mU_292 mU_293 mU_26) mU_294
theorem gwRX5_25 : GoodIn wsU (wsV RX5 25 RX5 yX5_readName (wsO yX5_readName cX5_readName 2 (some .int))) := goL (m4 mU_299 mU_300 mU_301 mU_26) mU_302
theorem gwRX5_29 : GoodIn wsU (wsV RX5 29 RX5 yX5_readTable (wsO yX5_readTable cX5_readTable 6 (some .boolean))) := goL (m4 mU_307 mU_308 mU_309 mU_26) mU_310
theorem gwRX5_33 : GoodIn wsU (wsV RX5 33 RX5 yX5_here (wsO yX5_here cX5_here 3 (some .int))) := goL (m4 mU_295 mU_296 mU_297 mU_26) mU_298
theorem gwRX5_37 : GoodIn wsU (wsV RX5 37 RX5 yX5_stretch (wsO yX5_stretch cX5_stretch 4 (some .int))) := goL (m4 mU_303 mU_304 mU_305 mU_26) mU_306
theorem gwRX5_41 : GoodIn wsU (wsV RX5 41 RX4 yX4_rows (wsO yX4_rows cX4_rows 2 (some .int))) := goL (m4 mU_311 mU_138 mU_139 mU_15) mU_140
theorem gwRX5_46 : GoodIn wsU (wsV RX5 46 RX4 yX4_columns (wsO yX4_columns cX4_columns 2 (some .int))) := goL (m4 mU_312 mU_142 mU_143 mU_15) mU_144
theorem gwRX5_49 : GoodIn wsU (wsV RX5 49 RX5 yX5_readEntry (wsO yX5_readEntry cX5_readEntry 8 (some .boolean))) := goL (m4 mU_313 mU_314 mU_315 mU_26) mU_316
theorem gwRX5_53 : GoodIn wsU (wsV RX5 53 RX5 yX5_readMark (wsO yX5_readMark cX5_readMark 2 (some .boolean))) := goL (m4 mU_317 mU_318 mU_319 mU_26) mU_320
theorem gwRX5_57 : GoodIn wsU (wsO yX6_reach cX6_reach 1 (some .int)) := goL m0 mU_147
theorem gwRX5_60 : GoodIn wsU (wsV RX5 60 RX4 yX4_store (wsO yX4_store cX4_store 6 none)) := goL (m4 mU_321 mU_156 mU_157 mU_15) mU_158
theorem gwRX6_67 : GoodIn wsU (wsV RX6 67 RX4 yX4_resize (wsO yX4_resize cX4_resize 3 none)) := goL (m4 mU_113 mU_114 mU_115 mU_15) mU_116
theorem gwRX6_71 : GoodIn wsU (wsV RX6 71 RX4 yX4_hasEntry (wsO yX4_hasEntry cX4_hasEntry 4 (some .boolean))) := goL (m4 mU_133 mU_134 mU_135 mU_15) mU_136
theorem gwRX6_75 : GoodIn wsU (va_wsS RX6 75 yX6_reach (wsO yX6_reach cX6_reach 1 (some .int))) := goL (m3 mU_145 mU_146 mU_2) mU_147
theorem gwRX6_79 : GoodIn wsU (wsV RX6 79 RX4 yX4_entry (wsO yX4_entry cX4_entry 5 (some .int))) := goL (m4 mU_148 mU_149 mU_150 mU_15) mU_151
theorem gwRX6_83 : GoodIn wsU (wsV RX6 83 RX4 yX4_store (wsO yX4_store cX4_store 6 none)) := goL (m4 mU_155 mU_156 mU_157 mU_15) mU_158
theorem gwRX6_87 : GoodIn wsU (va_wsS RX6 87 yX6_far (wsO yX6_far cX6_far 1 (some .long))) := goL (m3 mU_199 mU_200 mU_2) mU_201
theorem gwRX6_91 : GoodIn wsU (wsV RX6 91 RX4 yX4_rows (wsO yX4_rows cX4_rows 2 (some .int))) := goL (m4 mU_203 mU_138 mU_139 mU_15) mU_140
theorem gwRX6_94 : GoodIn wsU (wsV RX6 94 RX4 yX4_minors (wsO yX4_minors cX4_minors 3 (some .long))) := goL (m4 mU_204 mU_205 mU_206 mU_15) mU_207
theorem gwRX6_101 : GoodIn wsU (wsV RX6 101 RX5 yX5_take (wsO yX5_take cX5_take 2 none)) := goL (m4 mU_262 mU_263 mU_264 mU_26) mU_265
theorem gwRX6_105 : GoodIn wsU (wsV RX6 105 RX4 yX4_copyFrom (wsO yX4_copyFrom cX4_copyFrom 2 none)) := goL (m4 mU_277 mU_278 mU_279 mU_15) mU_280
theorem gwRX6_109 : GoodIn wsU (wsV RX6 109 RX5 yX5_tell (wsO yX5_tell cX5_tell 5 (some .int))) := goL (m4 mU_286 mU_287 mU_288 mU_26) mU_289
theorem gwRX6_113 : GoodIn wsU (va_wsS RX6 113 yX6_isKind (wsO yX6_isKind cX6_isKind 1 (some .boolean))) := goL (m3 mU_365 mU_366 mU_2) mU_367
theorem gwRX6_117 : GoodIn wsU (va_wsS RX6 117 yX6_isShift (wsO yX6_isShift cX6_isShift 1 (some .boolean))) := goL (m3 mU_368 mU_369 mU_2) mU_370
theorem gwRX6_121 : GoodIn wsU (wsV RX6 121 RX4 yX4_become (wsO yX4_become cX4_become 4 none)) := goL (m4 mU_371 mU_372 mU_373 mU_15) mU_374
theorem gwRX6_125 : GoodIn wsU (wsV RX6 125 RX4 yX4_hasEquation (wsO yX4_hasEquation cX4_hasEquation 2 (some .boolean))) := goL (m4 mU_394 mU_376 mU_377 mU_15) mU_378
theorem gwRX6_128 : GoodIn wsU (wsV RX6 128 RX4 yX4_kindOf (wsO yX4_kindOf cX4_kindOf 2 (some .int))) := goL (m4 mU_395 mU_396 mU_397 mU_15) mU_398
theorem gwRX6_131 : GoodIn wsU (wsV RX6 131 RX4 yX4_shiftOf (wsO yX4_shiftOf cX4_shiftOf 2 (some .int))) := goL (m4 mU_399 mU_400 mU_401 mU_15) mU_402
theorem gwRX6_134 : GoodIn wsU (wsV RX6 134 RX4 yX4_fits (wsO yX4_fits cX4_fits 2 (some .boolean))) := goL (m4 mU_403 mU_404 mU_405 mU_15) mU_406
theorem gwRX6_137 : GoodIn wsU (wsV RX6 137 RX4 yX4_hasRight (wsO yX4_hasRight cX4_hasRight 2 (some .boolean))) := goL (m4 mU_415 mU_408 mU_409 mU_15) mU_410
theorem gwRX6_140 : GoodIn wsU (wsV RX6 140 RX4 yX4_unknowns (wsO yX4_unknowns cX4_unknowns 2 (some .int))) := goL (m4 mU_416 mU_412 mU_413 mU_15) mU_414
theorem gwRX6_143 : GoodIn wsU (wsV RX6 143 RX6 yX6_solve (wsO yX6_solve cX6_solve 3 none)) := goL (m4 mU_417 mU_418 mU_419 mU_2) mU_420
theorem gwRX6_150 : GoodIn wsU (wsV RX6 150 RX1 yX1_freeSet (wsO yX1_freeSet cX1_freeSet 3 (some .int))) := goL (m4 mU_497 mU_498 mU_499 mU_21) mU_500
theorem gwRX6_154 : GoodIn wsU (wsV RX6 154 RX1 yX1_isSolvable (wsO yX1_isSolvable cX1_isSolvable 2 (some .boolean))) := goL (m4 mU_505 mU_506 mU_507 mU_21) mU_508
theorem gwRX6_158 : GoodIn wsU (va_wsS RX6 158 yX6_oneIf (wsO yX6_oneIf cX6_oneIf 1 (some .int))) := goL (m3 mU_509 mU_510 mU_2) mU_511
theorem gwRX6_162 : GoodIn wsU (wsV RX6 162 RX4 yX4_rightEntry (wsO yX4_rightEntry cX4_rightEntry 4 (some .int))) := goL (m4 mU_475 mU_476 mU_477 mU_15) mU_478
theorem gwRX6_165 : GoodIn wsU (va_wsS RX6 165 yX6_isPart (wsO yX6_isPart cX6_isPart 1 (some .boolean))) := goL (m3 mU_604 mU_605 mU_2) mU_606
theorem gwRX6_168 : GoodIn wsU (wsV RX6 168 RX6 yX6_solutionAbove (wsO yX6_solutionAbove cX6_solutionAbove 4 (some .long))) := goL (m4 mU_607 mU_608 mU_609 mU_2) mU_610
theorem gwRX6_176 : GoodIn wsU (va_wsS RX6 176 yX6_fractionPart (wsO yX6_fractionPart cX6_fractionPart 7 (some .long))) := goL (m3 mU_619 mU_620 mU_2) mU_621
theorem gwRX6_180 : GoodIn wsU (wsV RX6 180 RX1 yX1_isFree (wsO yX1_isFree cX1_isFree 2 (some .boolean))) := goL (m4 mU_649 mU_502 mU_503 mU_21) mU_504
theorem gwRX6_183 : GoodIn wsU (wsV RX6 183 RX4 yX4_signAt (wsO yX4_signAt cX4_signAt 4 (some .int))) := goL (m4 mU_461 mU_462 mU_463 mU_15) mU_464
theorem gwRX6_186 : GoodIn wsU (wsV RX6 186 RX4 yX4_unknownAt (wsO yX4_unknownAt cX4_unknownAt 6 (some .int))) := goL (m4 mU_465 mU_466 mU_467 mU_15) mU_468
theorem gwRX6_189 : GoodIn wsU (wsV RX6 189 RX1 yX1_baseAbove (wsO yX1_baseAbove cX1_baseAbove 3 (some .long))) := goL (m4 mU_650 mU_651 mU_652 mU_21) mU_653
theorem gwRX6_192 : GoodIn wsU (wsV RX6 192 RX6 yX6_fillGrid (wsO yX6_fillGrid cX6_fillGrid 9 none)) := goL (m4 mU_421 mU_422 mU_423 mU_2) mU_424
theorem gwRX6_195 : GoodIn wsU (wsV RX6 195 RX1 yX1_fillTurned (wsO yX1_fillTurned cX1_fillTurned 4 none)) := goL (m4 mU_662 mU_663 mU_664 mU_21) mU_665
theorem gwRX6_199 : GoodIn wsU (wsV RX6 199 RX1 yX1_eliminate (wsO yX1_eliminate cX1_eliminate 3 none)) := goL (m4 mU_479 mU_480 mU_481 mU_21) mU_482
theorem gwRX6_202 : GoodIn wsU (wsV RX6 202 RX1 yX1_solutionAbove (wsO yX1_solutionAbove cX1_solutionAbove 2 (some .long))) := goL (m4 mU_611 mU_612 mU_613 mU_21) mU_614
theorem gwRX6_204 : GoodIn wsU (wsV RX6 204 RX6 yX6_isSmallWhole (wsO yX6_isSmallWhole cX6_isSmallWhole 2 (some .boolean))) := goL (m4 mU_687 mU_688 mU_689 mU_2) mU_690
theorem gwRX6_207 : GoodIn wsU (wsV RX6 207 RX1 yX1_determinant (wsO yX1_determinant cX1_determinant 1 (some .long))) := goL (m4 mU_703 mU_704 mU_705 mU_21) mU_706
theorem gwRX6_211 : GoodIn wsU (wsV RX6 211 RX4 yX4_splits (wsO yX4_splits cX4_splits 4 (some .boolean))) := goL (m4 mU_715 mU_716 mU_717 mU_15) mU_718
theorem gwRX6_214 : GoodIn wsU (va_wsS RX6 214 yX6_isSheet (wsO yX6_isSheet cX6_isSheet 1 (some .boolean))) := goL (m3 mU_747 mU_748 mU_2) mU_749
theorem gwRX6_217 : GoodIn wsU (wsV RX6 217 RX6 yX6_solutionDivisor (wsO yX6_solutionDivisor cX6_solutionDivisor 6 (some .long))) := goL (m4 mU_750 mU_751 mU_752 mU_2) mU_753
theorem gwRX6_220 : GoodIn wsU (wsV RX6 220 RX6 yX6_isLaidInInts (wsO yX6_isLaidInInts cX6_isLaidInInts 6 (some .boolean))) := goL (m4 mU_754 mU_755 mU_756 mU_2) mU_757
theorem gwRX6_224 : GoodIn wsU (wsV RX6 224 RX2 yX2_renew (wsO yX2_renew cX2_renew 3 none)) := goL (m4 mU_761 mU_762 mU_763 mU_37) mU_764
theorem gwRX6_227 : GoodIn wsU (wsV RX6 227 RX2 yX2_write (wsO yX2_write cX2_write 4 none)) := goL (m4 mU_769 mU_770 mU_771 mU_37) mU_772
theorem gwRX6_231 : GoodIn wsU (wsV RX6 231 RX6 yX6_unreadable (wsO yX6_unreadable cX6_unreadable 2 (some .int))) := goL (m4 mU_792 mU_793 mU_794 mU_2) mU_795
theorem gwRX6_235 : GoodIn wsU (wsV RX6 235 RX6 yX6_firstWrong (wsO yX6_firstWrong cX6_firstWrong 7 (some .int))) := goL (m4 mU_798 mU_799 mU_800 mU_2) mU_801
theorem gwRX6_239 : GoodIn wsU (wsV RX6 239 RX6 yX6_isOfShape (wsO yX6_isOfShape cX6_isOfShape 10 (some .boolean))) := goL (m4 mU_810 mU_811 mU_812 mU_2) mU_813
theorem gwRX6_246 : GoodIn wsU (wsV RX6 246 RX4 yX4_draw (wsO yX4_draw cX4_draw 1 none)) := goL (m4 mU_861 mU_862 mU_863 mU_15) mU_864
theorem gwRX6_249 : GoodIn wsU (va_wsS RX6 249 yX6_isSort (wsO yX6_isSort cX6_isSort 1 (some .boolean))) := goL (m3 mU_893 mU_894 mU_2) mU_895
theorem gwRX6_258 : GoodIn wsU (wsV RX6 258 RX2 yX2_read (wsO yX2_read cX2_read 2 (some .long))) := goL (m4 mU_806 mU_807 mU_808 mU_37) mU_809
theorem gwRX6_261 : GoodIn wsU (wsV RX6 261 RX2 yX2_hasStretch (wsO yX2_hasStretch cX2_hasStretch 3 (some .boolean))) := goL (m4 mU_925 mU_926 mU_927 mU_37) mU_928
theorem gwRX6_275 : GoodIn wsU (va_wsS RX6 275 yX6_isShelf (wsO yX6_isShelf cX6_isShelf 1 (some .boolean))) := goL (m3 mU_937 mU_938 mU_2) mU_939
theorem gwRX6_278 : GoodIn wsU (wsV RX6 278 RX3 yX3_hold (wsO yX3_hold cX3_hold 4 none)) := goL (m4 mU_940 mU_941 mU_942 mU_39) mU_943
theorem gwRX6_281 : GoodIn wsU (wsV RX6 281 RX6 yX6_heldNow (wsO yX6_heldNow cX6_heldNow 2 (some .int))) := goL (m4 mU_959 mU_960 mU_961 mU_2) mU_962
theorem gwRX6_289 : GoodIn wsU (va_wsS RX6 289 yX6_isUnder (wsO yX6_isUnder cX6_isUnder 4 (some .boolean))) := goL (m3 mU_964 mU_965 mU_2) mU_966
theorem gwRX6_292 : GoodIn wsU (wsV RX6 292 RX0 yX0_forget (wsO yX0_forget cX0_forget 1 none)) := goL (m4 mU_990 mU_991 mU_992 mU_30) mU_993
theorem gwRX6_302 : GoodIn wsU (wsV RX6 302 RX0 yX0_run (wsO yX0_run cX0_run 4 (some .int))) := goL (m4 mU_996 mU_997 mU_998 mU_30) mU_999
theorem gwRX6_311 : GoodIn wsU (wsV RX6 311 RX4 yX4_fittingSet (wsO yX4_fittingSet cX4_fittingSet 3 (some .int))) := goL (m4 mU_1090 mU_1091 mU_1092 mU_15) mU_1093
theorem gwRX6_314 : GoodIn wsU (wsV RX6 314 RX4 yX4_splitSet (wsO yX4_splitSet cX4_splitSet 3 (some .int))) := goL (m4 mU_1096 mU_1097 mU_1098 mU_15) mU_1099
theorem gwRX6_323 : GoodIn wsU (va_wsS RX6 323 yX6_kindAbove (wsO yX6_kindAbove cX6_kindAbove 1 (some .int))) := goL (m3 mU_967 mU_968 mU_2) mU_969
theorem gwRX6_326 : GoodIn wsU (va_wsS RX6 326 yX6_commonDivisor (wsO yX6_commonDivisor cX6_commonDivisor 11 (some .long))) := goL (m3 mU_624 mU_625 mU_2) mU_626
theorem gwRX6_337 : GoodIn wsU (wsV RX6 337 RX1 yX1_clear (wsO yX1_clear cX1_clear 3 none)) := goL (m4 mU_425 mU_426 mU_427 mU_21) mU_428
theorem gwRX6_340 : GoodIn wsU (wsV RX6 340 RX1 yX1_add (wsO yX1_add cX1_add 5 none)) := goL (m4 mU_441 mU_442 mU_443 mU_21) mU_444
theorem gwRX6_344 : GoodIn wsU (wsV RX6 344 RX6 yX6_fillRow (wsO yX6_fillRow cX6_fillRow 13 none)) := goL (m4 mU_457 mU_458 mU_459 mU_2) mU_460
theorem gwRX6_348 : GoodIn wsU (wsV RX6 348 RX4 yX4_leftEntry (wsO yX4_leftEntry cX4_leftEntry 4 (some .int))) := goL (m4 mU_471 mU_472 mU_473 mU_15) mU_474
theorem gwRX6_351 : GoodIn wsU (va_wsS RX6 351 yX6_isInt (wsO yX6_isInt cX6_isInt 2 (some .boolean))) := goL (m3 mU_758 mU_759 mU_2) mU_760
theorem gwRX6_355 : GoodIn wsU (wsV RX6 355 RX6 yX6_sumAt (wsO yX6_sumAt cX6_sumAt 9 (some .long))) := goL (m4 mU_802 mU_803 mU_804 mU_2) mU_805
theorem gwRX7_93 : GoodIn wsU (va_wsS RX7 93 yX7_common (wsO yX7_common cX7_common 10 (some .long))) := goL (m3 mU_642 mU_643 mU_5) mU_644
theorem gwRX7_99 : GoodIn wsU (va_wsS RX7 99 yX7_in (wsO yX7_in cX7_in 6 (some .boolean))) := goL (m3 mU_126 mU_127 mU_5) mU_128
theorem gwRX7_103 : GoodIn wsU (wsV RX7 103 RX7 yX7_rowsOf (wsO yX7_rowsOf cX7_rowsOf 2 (some .int))) := goL (m4 mU_168 mU_169 mU_170 mU_5) mU_171
theorem gwRX7_107 : GoodIn wsU (wsV RX7 107 RX7 yX7_columnsOf (wsO yX7_columnsOf cX7_columnsOf 2 (some .int))) := goL (m4 mU_172 mU_173 mU_174 mU_5) mU_175
theorem gwRX7_120 : GoodIn wsU (wsV RX7 120 RX7 yX7_isPlace (wsO yX7_isPlace cX7_isPlace 4 (some .boolean))) := goL (m4 mU_163 mU_164 mU_165 mU_5) mU_166
theorem gwRX7_124 : GoodIn wsU (va_wsS RX7 124 yX7_isEntry (wsO yX7_isEntry cX7_isEntry 2 (some .boolean))) := goL (m3 mU_176 mU_177 mU_5) mU_178
theorem gwRX7_128 : GoodIn wsU (wsV RX7 128 RX7 yX7_its (wsO yX7_its cX7_its 4 (some .int))) := goL (m4 mU_183 mU_184 mU_185 mU_5) mU_186
theorem gwRX7_132 : GoodIn wsU (wsV RX7 132 RX7 yX7_cross (wsO yX7_cross cX7_cross 6 (some .long))) := goL (m4 mU_225 mU_226 mU_227 mU_5) mU_228
theorem gwRX7_136 : GoodIn wsU (wsV RX7 136 RX7 yX7_detOf (wsO yX7_detOf cX7_detOf 3 (some .long))) := goL (m4 mU_221 mU_222 mU_223 mU_5) mU_224
theorem gwRX7_140 : GoodIn wsU (va_wsS RX7 140 yX7_told (wsO yX7_told cX7_told 1 (some .long))) := goL (m3 mU_229 mU_230 mU_5) mU_231
theorem gwRX7_143 : GoodIn wsU (wsV RX7 143 RX7 yX7_sumDown (wsO yX7_sumDown cX7_sumDown 5 (some .long))) := goL (m4 mU_241 mU_242 mU_243 mU_5) mU_244
theorem gwRX7_146 : GoodIn wsU (wsV RX7 146 RX7 yX7_pairs (wsO yX7_pairs cX7_pairs 6 (some .long))) := goL (m4 mU_253 mU_254 mU_255 mU_5) mU_256
theorem gwRX7_160 : GoodIn wsU (va_wsS RX7 160 yX7_isLetter (wsO yX7_isLetter cX7_isLetter 1 (some .boolean))) := goL (m3 mU_338 mU_339 mU_5) mU_340
theorem gwRX7_164 : GoodIn wsU (va_wsS RX7 164 yX7_isDigit (wsO yX7_isDigit cX7_isDigit 1 (some .boolean))) := goL (m3 mU_341 mU_342 mU_5) mU_343
theorem gwRX7_170 : GoodIn wsU (wsV RX7 170 RX7 yX7_is (wsO yX7_is cX7_is 2 (some .boolean))) := goL (m4 mU_348 mU_349 mU_350 mU_5) mU_351
theorem gwRX7_173 : GoodIn wsU (wsV RX7 173 RX7 yX7_next (wsO yX7_next cX7_next 3 none)) := goL (m4 mU_334 mU_335 mU_336 mU_5) mU_337
theorem gwRX7_176 : GoodIn wsU (wsV RX7 176 RX7 yX7_fails (wsO yX7_fails cX7_fails 1 none)) := goL (m4 mU_352 mU_353 mU_354 mU_5) mU_355
theorem gwRX7_179 : GoodIn wsU (wsV RX7 179 RX7 yX7_entryOf (wsO yX7_entryOf cX7_entryOf 7 none)) := goL (m4 mU_356 mU_357 mU_358 mU_5) mU_359
theorem gwRX7_186 : GoodIn wsU (wsV RX7 186 RX7 yX7_saves (wsO yX7_saves cX7_saves 4 none)) := goL (m4 mU_330 mU_331 mU_332 mU_5) mU_333
theorem gwRX7_190 : GoodIn wsU (wsV RX7 190 RX7 yX7_table (wsO yX7_table cX7_table 4 none)) := goL (m4 mU_344 mU_345 mU_346 mU_5) mU_347
theorem gwRX7_198 : GoodIn wsU (va_wsS RX7 198 yX7_isKind (wsO yX7_isKind cX7_isKind 1 (some .boolean))) := goL (m3 mU_385 mU_386 mU_5) mU_387
theorem gwRX7_203 : GoodIn wsU (wsV RX7 203 RX7 yX7_isEquation (wsO yX7_isEquation cX7_isEquation 2 (some .boolean))) := goL (m4 mU_517 mU_518 mU_519 mU_5) mU_520
theorem gwRX7_206 : GoodIn wsU (va_wsS RX7 206 yX7_isUnknown (wsO yX7_isUnknown cX7_isUnknown 3 (some .boolean))) := goL (m3 mU_533 mU_534 mU_5) mU_535
theorem gwRX7_209 : GoodIn wsU (wsV RX7 209 RX7 yX7_isLike (wsO yX7_isLike cX7_isLike 2 (some .boolean))) := goL (m4 mU_525 mU_526 mU_527 mU_5) mU_528
theorem gwRX7_212 : GoodIn wsU (wsV RX7 212 RX7 yX7_unknownsOf (wsO yX7_unknownsOf cX7_unknownsOf 4 (some .int))) := goL (m4 mU_529 mU_530 mU_531 mU_5) mU_532
theorem gwRX7_215 : GoodIn wsU (wsV RX7 215 RX7 yX7_rightOf (wsO yX7_rightOf cX7_rightOf 4 (some .int))) := goL (m4 mU_557 mU_558 mU_559 mU_5) mU_560
theorem gwRX7_218 : GoodIn wsU (va_wsS RX7 218 yX7_shaped (wsO yX7_shaped cX7_shaped 6 (some .int))) := goL (m3 mU_550 mU_551 mU_5) mU_552
theorem gwRX7_222 : GoodIn wsU (wsV RX7 222 RX7 yX7_times0 (wsO yX7_times0 cX7_times0 7 (some .int))) := goL (m4 mU_553 mU_554 mU_555 mU_5) mU_556
theorem gwRX7_242 : GoodIn wsU (wsV RX7 242 RX7 yX7_swaps (wsO yX7_swaps cX7_swaps 6 none)) := goL (m4 mU_567 mU_568 mU_569 mU_5) mU_570
theorem gwRX7_246 : GoodIn wsU (wsV RX7 246 RX7 yX7_clears (wsO yX7_clears cX7_clears 9 none)) := goL (m4 mU_571 mU_572 mU_573 mU_5) mU_574
theorem gwRX7_249 : GoodIn wsU (wsV RX7 249 RX7 yX7_takenBy (wsO yX7_takenBy cX7_takenBy 9 (some .int))) := goL (m4 mU_546 mU_547 mU_548 mU_5) mU_549
theorem gwRX7_252 : GoodIn wsU (wsV RX7 252 RX7 yX7_works (wsO yX7_works cX7_works 3 none)) := goL (m4 mU_561 mU_562 mU_563 mU_5) mU_564
theorem gwRX7_255 : GoodIn wsU (wsV RX7 255 RX7 yX7_sets (wsO yX7_sets cX7_sets 9 none)) := goL (m4 mU_540 mU_541 mU_542 mU_5) mU_543
theorem gwRX7_259 : GoodIn wsU (wsV RX7 259 RX7 yX7_isFit (wsO yX7_isFit cX7_isFit 2 (some .boolean))) := goL (m4 mU_521 mU_522 mU_523 mU_5) mU_524
theorem gwRX7_262 : GoodIn wsU (wsV RX7 262 RX7 yX7_setsUp (wsO yX7_setsUp cX7_setsUp 2 none)) := goL (m4 mU_536 mU_537 mU_538 mU_5) mU_539
theorem gwRX7_266 : GoodIn wsU (wsV RX7 266 RX7 yX7_freeOnes (wsO yX7_freeOnes cX7_freeOnes 3 (some .int))) := goL (m4 mU_575 mU_576 mU_577 mU_5) mU_578
theorem gwRX7_270 : GoodIn wsU (wsV RX7 270 RX7 yX7_isSolved (wsO yX7_isSolved cX7_isSolved 2 (some .boolean))) := goL (m4 mU_579 mU_580 mU_581 mU_5) mU_582
theorem gwRX7_274 : GoodIn wsU (wsV RX7 274 RX7 yX7_isPart (wsO yX7_isPart cX7_isPart 5 (some .boolean))) := goL (m4 mU_631 mU_632 mU_633 mU_5) mU_634
theorem gwRX7_278 : GoodIn wsU (wsV RX7 278 RX7 yX7_shapedSum (wsO yX7_shapedSum cX7_shapedSum 11 (some .long))) := goL (m4 mU_635 mU_636 mU_637 mU_5) mU_638
theorem gwRX7_282 : GoodIn wsU (va_wsS RX7 282 yX7_partOf (wsO yX7_partOf cX7_partOf 7 (some .long))) := goL (m3 mU_639 mU_640 mU_5) mU_641
theorem gwRX7_286 : GoodIn wsU (wsV RX7 286 RX7 yX7_swapsRules (wsO yX7_swapsRules cX7_swapsRules 6 none)) := goL (m4 mU_675 mU_676 mU_677 mU_5) mU_678
theorem gwRX7_289 : GoodIn wsU (wsV RX7 289 RX7 yX7_clearsRules (wsO yX7_clearsRules cX7_clearsRules 12 (some .long))) := goL (m4 mU_679 mU_680 mU_681 mU_5) mU_682
theorem gwRX7_293 : GoodIn wsU (wsV RX7 293 RX7 yX7_worksRules (wsO yX7_worksRules cX7_worksRules 9 (some .long))) := goL (m4 mU_671 mU_672 mU_673 mU_5) mU_674
theorem gwRX7_297 : GoodIn wsU (wsV RX7 297 RX7 yX7_isSmall (wsO yX7_isSmall cX7_isSmall 2 (some .boolean))) := goL (m4 mU_695 mU_696 mU_697 mU_5) mU_698
theorem gwRX7_300 : GoodIn wsU (wsV RX7 300 RX7 yX7_splits (wsO yX7_splits cX7_splits 4 (some .boolean))) := goL (m4 mU_723 mU_724 mU_725 mU_5) mU_726
theorem gwRX7_303 : GoodIn wsU (va_wsS RX7 303 yX7_isSheet (wsO yX7_isSheet cX7_isSheet 1 (some .boolean))) := goL (m3 mU_781 mU_782 mU_5) mU_783
theorem gwRX7_306 : GoodIn wsU (wsV RX7 306 RX7 yX7_leastScale (wsO yX7_leastScale cX7_leastScale 7 (some .long))) := goL (m4 mU_784 mU_785 mU_786 mU_5) mU_787
theorem gwRX7_309 : GoodIn wsU (wsV RX7 309 RX7 yX7_against (wsO yX7_against cX7_against 2 (some .int))) := goL (m4 mU_818 mU_819 mU_820 mU_5) mU_821
theorem gwRX7_312 : GoodIn wsU (wsV RX7 312 RX7 yX7_firstOff (wsO yX7_firstOff cX7_firstOff 9 (some .int))) := goL (m4 mU_822 mU_823 mU_824 mU_5) mU_825
theorem gwRX7_316 : GoodIn wsU (wsV RX7 316 RX7 yX7_isShaped (wsO yX7_isShaped cX7_isShaped 11 (some .boolean))) := goL (m4 mU_826 mU_827 mU_828 mU_5) mU_829
theorem gwRX7_326 : GoodIn wsU (wsV RX7 326 RX7 yX7_lots (wsO yX7_lots cX7_lots 4 none)) := goL (m4 mU_875 mU_876 mU_877 mU_5) mU_878
theorem gwRX7_331 : GoodIn wsU (va_wsS RX7 331 yX7_narrowed (wsO yX7_narrowed cX7_narrowed 3 (some .long))) := goL (m3 mU_908 mU_909 mU_5) mU_910
theorem gwRX7_335 : GoodIn wsU (va_wsS RX7 335 yX7_isShelf (wsO yX7_isShelf cX7_isShelf 1 (some .boolean))) := goL (m3 mU_950 mU_951 mU_5) mU_952
theorem gwRX7_342 : GoodIn wsU (wsV RX7 342 RX7 yX7_heldBy (wsO yX7_heldBy cX7_heldBy 2 (some .int))) := goL (m4 mU_976 mU_977 mU_978 mU_5) mU_979
theorem gwRX7_345 : GoodIn wsU (va_wsS RX7 345 yX7_isUnder (wsO yX7_isUnder cX7_isUnder 2 (some .boolean))) := goL (m3 mU_980 mU_981 mU_5) mU_982
theorem gwRX7_351 : GoodIn wsU (wsV RX7 351 RX7 yX7_ran (wsO yX7_ran cX7_ran 2 none)) := goL (m4 mU_1036 mU_1037 mU_1038 mU_5) mU_1039
theorem gwRX7_357 : GoodIn wsU (wsV RX7 357 RX7 yX7_plainWeighs (wsO yX7_plainWeighs cX7_plainWeighs 2 (some .int))) := goL (m4 mU_1040 mU_1041 mU_1042 mU_5) mU_1043
theorem gwRX7_363 : GoodIn wsU (wsV RX7 363 RX7 yX7_turnedWeighs (wsO yX7_turnedWeighs cX7_turnedWeighs 2 (some .int))) := goL (m4 mU_1044 mU_1045 mU_1046 mU_5) mU_1047
theorem gwRX7_369 : GoodIn wsU (wsV RX7 369 RX7 yX7_weighs (wsO yX7_weighs cX7_weighs 2 (some .int))) := goL (m4 mU_1032 mU_1033 mU_1034 mU_5) mU_1035
theorem gwRX7_372 : GoodIn wsU (wsV RX7 372 RX7 yX7_plainTurns (wsO yX7_plainTurns cX7_plainTurns 2 (some .int))) := goL (m4 mU_1056 mU_1057 mU_1058 mU_5) mU_1059
theorem gwRX7_375 : GoodIn wsU (wsV RX7 375 RX7 yX7_alikeTurns (wsO yX7_alikeTurns cX7_alikeTurns 2 (some .int))) := goL (m4 mU_1052 mU_1053 mU_1054 mU_5) mU_1055
theorem gwRX7_382 : GoodIn wsU (wsV RX7 382 RX7 yX7_turns (wsO yX7_turns cX7_turns 2 (some .int))) := goL (m4 mU_1048 mU_1049 mU_1050 mU_5) mU_1051
theorem gwRX7_385 : GoodIn wsU (wsV RX7 385 RX7 yX7_parts (wsO yX7_parts cX7_parts 4 (some .int))) := goL (m4 mU_1060 mU_1061 mU_1062 mU_5) mU_1063
theorem gwRX7_388 : GoodIn wsU (wsV RX7 388 RX7 yX7_plainCloses (wsO yX7_plainCloses cX7_plainCloses 3 (some .int))) := goL (m4 mU_1072 mU_1073 mU_1074 mU_5) mU_1075
theorem gwRX7_391 : GoodIn wsU (wsV RX7 391 RX7 yX7_evenCloses (wsO yX7_evenCloses cX7_evenCloses 3 (some .int))) := goL (m4 mU_1068 mU_1069 mU_1070 mU_5) mU_1071
theorem gwRX7_394 : GoodIn wsU (wsV RX7 394 RX7 yX7_closes (wsO yX7_closes cX7_closes 2 (some .int))) := goL (m4 mU_1064 mU_1065 mU_1066 mU_5) mU_1067
theorem gwRX7_397 : GoodIn wsU (wsV RX7 397 RX7 yX7_fitting (wsO yX7_fitting cX7_fitting 3 (some .int))) := goL (m4 mU_1105 mU_1106 mU_1107 mU_5) mU_1108
theorem gwRX7_400 : GoodIn wsU (wsV RX7 400 RX7 yX7_splitting (wsO yX7_splitting cX7_splitting 3 (some .int))) := goL (m4 mU_1109 mU_1110 mU_1111 mU_5) mU_1112

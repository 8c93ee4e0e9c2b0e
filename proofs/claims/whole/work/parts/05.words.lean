def rmJ0_charAt_5068e : Room := { frames := 4, cells := 0, slots := 0, locals := 103 }
def rmJ0_length_8abf5 : Room := { frames := 1, cells := 0, slots := 0, locals := 20 }
def rmJ9_floorDiv_f86c9 : Room := { frames := 0, cells := 0, slots := 0, locals := 0 }
def rmJ9_floorMod_1978a : Room := { frames := 1, cells := 0, slots := 0, locals := 25 }
def rmJ9_floorMod_f86c9 : Room := { frames := 0, cells := 0, slots := 0, locals := 0 }
def rmX0_add : Room := { frames := 0, cells := 0, slots := 0, locals := 0 }
def rmX0_bent : Room := { frames := 2, cells := 0, slots := 0, locals := 48 }
def rmX0_shareWith : Room := { frames := 1, cells := 0, slots := 0, locals := 22 }
def rmX10_append : Room := { frames := 0, cells := 0, slots := 0, locals := 0 }
def rmX10_at : Room := { frames := 0, cells := 0, slots := 0, locals := 0 }
def rmX10_clear : Room := { frames := 0, cells := 0, slots := 0, locals := 0 }
def rmX11_arc : Room := { frames := 2, cells := 0, slots := 0, locals := 45 }
def rmX11_count : Room := { frames := 0, cells := 0, slots := 0, locals := 0 }
def rmX11_event : Room := { frames := 2, cells := 0, slots := 0, locals := 43 }
def rmX11_feed : Room := { frames := 1, cells := 0, slots := 0, locals := 24 }
def rmX11_isTick : Room := { frames := 1, cells := 0, slots := 0, locals := 22 }
def rmX11_isVoice : Room := { frames := 1, cells := 0, slots := 0, locals := 22 }
def rmX11_isWithin : Room := { frames := 0, cells := 0, slots := 0, locals := 0 }
def rmX11_level : Room := { frames := 2, cells := 0, slots := 0, locals := 47 }
def rmX11_levelAt : Room := { frames := 3, cells := 0, slots := 0, locals := 73 }
def rmX11_mark : Room := { frames := 2, cells := 0, slots := 0, locals := 43 }
def rmX11_meter : Room := { frames := 1, cells := 0, slots := 0, locals := 22 }
def rmX11_note : Room := { frames := 2, cells := 0, slots := 0, locals := 42 }
def rmX11_perform : Room := { frames := 5, cells := 0, slots := 0, locals := 124 }
def rmX11_plain : Room := { frames := 1, cells := 0, slots := 0, locals := 22 }
def rmX11_quotient : Room := { frames := 1, cells := 0, slots := 0, locals := 25 }
def rmX11_read : Room := { frames := 9, cells := 0, slots := 0, locals := 218 }
def rmX11_rule : Room := { frames := 2, cells := 0, slots := 0, locals := 43 }
def rmX11_sounding : Room := { frames := 2, cells := 0, slots := 0, locals := 44 }
def rmX11_span : Room := { frames := 2, cells := 0, slots := 0, locals := 45 }
def rmX11_timeOf : Room := { frames := 3, cells := 0, slots := 0, locals := 72 }
def rmX11_value : Room := { frames := 2, cells := 0, slots := 0, locals := 45 }
def rmX11_why : Room := { frames := 2, cells := 0, slots := 0, locals := 42 }
def rmX12_arc : Room := { frames := 1, cells := 0, slots := 0, locals := 25 }
def rmX12_at : Room := { frames := 0, cells := 0, slots := 0, locals := 0 }
def rmX12_count : Room := { frames := 0, cells := 0, slots := 0, locals := 0 }
def rmX12_counts : Room := { frames := 0, cells := 0, slots := 0, locals := 0 }
def rmX12_cut : Room := { frames := 0, cells := 0, slots := 0, locals := 0 }
def rmX12_event : Room := { frames := 1, cells := 0, slots := 0, locals := 25 }
def rmX12_feed : Room := { frames := 1, cells := 0, slots := 0, locals := 25 }
def rmX12_floor : Room := { frames := 0, cells := 0, slots := 0, locals := 0 }
def rmX12_has : Room := { frames := 0, cells := 0, slots := 0, locals := 0 }
def rmX12_highAt : Room := { frames := 1, cells := 0, slots := 0, locals := 25 }
def rmX12_highest : Room := { frames := 0, cells := 0, slots := 0, locals := 0 }
def rmX12_in : Room := { frames := 0, cells := 0, slots := 0, locals := 0 }
def rmX12_isAhead : Room := { frames := 0, cells := 0, slots := 0, locals := 0 }
def rmX12_isNote : Room := { frames := 1, cells := 0, slots := 0, locals := 25 }
def rmX12_isNumber : Room := { frames := 1, cells := 0, slots := 0, locals := 25 }
def rmX12_lesser : Room := { frames := 0, cells := 0, slots := 0, locals := 0 }
def rmX12_level : Room := { frames := 1, cells := 0, slots := 0, locals := 25 }
def rmX12_levelAt : Room := { frames := 2, cells := 0, slots := 0, locals := 48 }
def rmX12_levelBy : Room := { frames := 0, cells := 0, slots := 0, locals := 0 }
def rmX12_longOf : Room := { frames := 2, cells := 0, slots := 0, locals := 48 }
def rmX12_loudOf : Room := { frames := 2, cells := 0, slots := 0, locals := 48 }
def rmX12_lowest : Room := { frames := 0, cells := 0, slots := 0, locals := 0 }
def rmX12_mark : Room := { frames := 2, cells := 0, slots := 0, locals := 46 }
def rmX12_meter : Room := { frames := 1, cells := 0, slots := 0, locals := 25 }
def rmX12_named : Room := { frames := 2, cells := 0, slots := 0, locals := 47 }
def rmX12_note : Room := { frames := 1, cells := 0, slots := 0, locals := 25 }
def rmX12_number : Room := { frames := 1, cells := 0, slots := 0, locals := 25 }
def rmX12_onOf : Room := { frames := 2, cells := 0, slots := 0, locals := 48 }
def rmX12_perform : Room := { frames := 5, cells := 0, slots := 0, locals := 126 }
def rmX12_performNote : Room := { frames := 4, cells := 0, slots := 0, locals := 103 }
def rmX12_plain : Room := { frames := 0, cells := 0, slots := 0, locals := 0 }
def rmX12_read : Room := { frames := 4, cells := 0, slots := 0, locals := 90 }
def rmX12_rolledAhead : Room := { frames := 1, cells := 0, slots := 0, locals := 22 }
def rmX12_rule : Room := { frames := 1, cells := 0, slots := 0, locals := 25 }
def rmX12_sounding : Room := { frames := 0, cells := 0, slots := 0, locals := 0 }
def rmX12_sounds : Room := { frames := 2, cells := 0, slots := 0, locals := 50 }
def rmX12_span : Room := { frames := 2, cells := 0, slots := 0, locals := 46 }
def rmX12_take : Room := { frames := 1, cells := 0, slots := 0, locals := 25 }
def rmX12_takeRule : Room := { frames := 3, cells := 0, slots := 0, locals := 68 }
def rmX12_time : Room := { frames := 1, cells := 0, slots := 0, locals := 25 }
def rmX12_timeOf : Room := { frames := 2, cells := 0, slots := 0, locals := 50 }
def rmX12_trill : Room := { frames := 3, cells := 0, slots := 0, locals := 77 }
def rmX12_usual : Room := { frames := 0, cells := 0, slots := 0, locals := 0 }
def rmX12_value : Room := { frames := 2, cells := 0, slots := 0, locals := 48 }
def rmX12_why : Room := { frames := 1, cells := 0, slots := 0, locals := 25 }
def rmX12_word : Room := { frames := 0, cells := 0, slots := 0, locals := 0 }
def rmX12_wordOf : Room := { frames := 1, cells := 0, slots := 0, locals := 27 }
def rmX1_add : Room := { frames := 0, cells := 0, slots := 0, locals := 0 }
def rmX1_bend : Room := { frames := 3, cells := 0, slots := 0, locals := 72 }
def rmX1_clear : Room := { frames := 0, cells := 0, slots := 0, locals := 0 }
def rmX1_endAtRepeat : Room := { frames := 1, cells := 0, slots := 0, locals := 23 }
def rmX1_endAtRepeats : Room := { frames := 2, cells := 0, slots := 0, locals := 46 }
def rmX1_endOf : Room := { frames := 0, cells := 0, slots := 0, locals := 0 }
def rmX1_firstBeginOf : Room := { frames := 0, cells := 0, slots := 0, locals := 0 }
def rmX1_has : Room := { frames := 1, cells := 0, slots := 0, locals := 22 }
def rmX1_howManyOf : Room := { frames := 0, cells := 0, slots := 0, locals := 0 }
def rmX1_lastEndOf : Room := { frames := 1, cells := 0, slots := 0, locals := 21 }
def rmX1_repeats : Room := { frames := 0, cells := 0, slots := 0, locals := 0 }
def rmX1_soundingAt : Room := { frames := 1, cells := 0, slots := 0, locals := 21 }
def rmX1_takeInOrder : Room := { frames := 3, cells := 0, slots := 0, locals := 68 }
def rmX2_at : Room := { frames := 2, cells := 0, slots := 0, locals := 48 }
def rmX2_moveUpFrom : Room := { frames := 0, cells := 0, slots := 0, locals := 0 }
def rmX2_put : Room := { frames := 1, cells := 0, slots := 0, locals := 22 }
def rmX3_has : Room := { frames := 1, cells := 0, slots := 0, locals := 22 }
def rmX3_wordOf : Room := { frames := 0, cells := 0, slots := 0, locals := 0 }
def rmX4_add : Room := { frames := 0, cells := 0, slots := 0, locals := 0 }
def rmX4_changeMarks : Room := { frames := 0, cells := 0, slots := 0, locals := 0 }
def rmX4_has : Room := { frames := 1, cells := 0, slots := 0, locals := 22 }
def rmX4_isInChord : Room := { frames := 0, cells := 0, slots := 0, locals := 0 }
def rmX4_isLower : Room := { frames := 0, cells := 0, slots := 0, locals := 0 }
def rmX4_rolledAhead : Room := { frames := 1, cells := 0, slots := 0, locals := 23 }
def rmX5_keyOf : Room := { frames := 0, cells := 0, slots := 0, locals := 0 }
def rmX5_merge : Room := { frames := 0, cells := 0, slots := 0, locals := 0 }
def rmX5_partAt : Room := { frames := 2, cells := 0, slots := 0, locals := 47 }
def rmX5_sort : Room := { frames := 1, cells := 0, slots := 0, locals := 26 }
def rmX6_addLean : Room := { frames := 2, cells := 0, slots := 0, locals := 51 }
def rmX6_addPart : Room := { frames := 1, cells := 0, slots := 0, locals := 27 }
def rmX6_addParts : Room := { frames := 3, cells := 0, slots := 0, locals := 77 }
def rmX6_addTrill : Room := { frames := 2, cells := 0, slots := 0, locals := 51 }
def rmX6_addTurn : Room := { frames := 2, cells := 0, slots := 0, locals := 51 }
def rmX6_drawOf : Room := { frames := 1, cells := 0, slots := 0, locals := 25 }
def rmX6_isMarked : Room := { frames := 0, cells := 0, slots := 0, locals := 0 }
def rmX6_longOf : Room := { frames := 2, cells := 0, slots := 0, locals := 45 }
def rmX6_loudOf : Room := { frames := 3, cells := 0, slots := 0, locals := 73 }
def rmX6_makeParts : Room := { frames := 4, cells := 0, slots := 0, locals := 99 }
def rmX6_onOf : Room := { frames := 2, cells := 0, slots := 0, locals := 50 }
def rmX6_roll : Room := { frames := 2, cells := 0, slots := 0, locals := 46 }
def rmX6_takeNote : Room := { frames := 0, cells := 0, slots := 0, locals := 0 }
def rmX7_findFault : Room := { frames := 8, cells := 0, slots := 0, locals := 195 }
def rmX7_isWord : Room := { frames := 5, cells := 0, slots := 0, locals := 124 }
def rmX7_kindAt : Room := { frames := 1, cells := 0, slots := 0, locals := 22 }
def rmX7_nameThere : Room := { frames := 6, cells := 0, slots := 0, locals := 147 }
def rmX7_takeNumber : Room := { frames := 3, cells := 0, slots := 0, locals := 65 }
def rmX7_takePiece : Room := { frames := 2, cells := 0, slots := 0, locals := 44 }
def rmX7_takeRule : Room := { frames := 7, cells := 0, slots := 0, locals := 169 }
def rmX8_areFull : Room := { frames := 0, cells := 0, slots := 0, locals := 0 }
def rmX8_clear : Room := { frames := 0, cells := 0, slots := 0, locals := 0 }
def rmX8_countingFor : Room := { frames := 0, cells := 0, slots := 0, locals := 0 }
def rmX8_dropStaged : Room := { frames := 0, cells := 0, slots := 0, locals := 0 }
def rmX8_has : Room := { frames := 1, cells := 0, slots := 0, locals := 22 }
def rmX8_isOutrankedBy : Room := { frames := 0, cells := 0, slots := 0, locals := 0 }
def rmX8_keepStaged : Room := { frames := 2, cells := 0, slots := 0, locals := 46 }
def rmX8_letCount : Room := { frames := 1, cells := 0, slots := 0, locals := 22 }
def rmX8_numberFor : Room := { frames := 1, cells := 0, slots := 0, locals := 22 }
def rmX8_stage : Room := { frames := 1, cells := 0, slots := 0, locals := 20 }
def rmX9_beat : Room := { frames := 0, cells := 0, slots := 0, locals := 0 }
def rmX9_beginsBar : Room := { frames := 1, cells := 0, slots := 0, locals := 21 }
def rmX9_beginsBeat : Room := { frames := 1, cells := 0, slots := 0, locals := 21 }
def rmX9_isMultiple : Room := { frames := 0, cells := 0, slots := 0, locals := 0 }
theorem hd_J0_charAt_5068e : yJ0_charAt_5068e.cls = "java/lang/String" ∧ yJ0_charAt_5068e.cls ≠ "java/lang/invoke/MethodHandle" ∧ yJ0_charAt_5068e.cls ≠ "java/lang/invoke/VarHandle" ∧ (parseMethodDescriptor yJ0_charAt_5068e.desc).map (fun d => d.parameters.length) = some 1 := by decide +kernel
theorem hd_J0_length_8abf5 : yJ0_length_8abf5.cls = "java/lang/String" ∧ yJ0_length_8abf5.cls ≠ "java/lang/invoke/MethodHandle" ∧ yJ0_length_8abf5.cls ≠ "java/lang/invoke/VarHandle" ∧ (parseMethodDescriptor yJ0_length_8abf5.desc).map (fun d => d.parameters.length) = some 0 := by decide +kernel
theorem hd_J9_floorDiv_f86c9 : yJ9_floorDiv_f86c9.cls ≠ "java/lang/invoke/MethodHandle" ∧ yJ9_floorDiv_f86c9.cls ≠ "java/lang/invoke/VarHandle" ∧ (parseMethodDescriptor yJ9_floorDiv_f86c9.desc).map (fun d => d.parameters.length) = some 2 := by decide +kernel
theorem hd_J9_floorMod_1978a : yJ9_floorMod_1978a.cls ≠ "java/lang/invoke/MethodHandle" ∧ yJ9_floorMod_1978a.cls ≠ "java/lang/invoke/VarHandle" ∧ (parseMethodDescriptor yJ9_floorMod_1978a.desc).map (fun d => d.parameters.length) = some 2 := by decide +kernel
theorem hd_J9_floorMod_f86c9 : yJ9_floorMod_f86c9.cls ≠ "java/lang/invoke/MethodHandle" ∧ yJ9_floorMod_f86c9.cls ≠ "java/lang/invoke/VarHandle" ∧ (parseMethodDescriptor yJ9_floorMod_f86c9.desc).map (fun d => d.parameters.length) = some 2 := by decide +kernel
theorem hd_X0_add : yX0_add.cls = RX0 ∧ yX0_add.cls ≠ "java/lang/invoke/MethodHandle" ∧ yX0_add.cls ≠ "java/lang/invoke/VarHandle" ∧ (parseMethodDescriptor yX0_add.desc).map (fun d => d.parameters.length) = some 3 := by decide +kernel
theorem hd_X0_bent : yX0_bent.cls = RX0 ∧ yX0_bent.cls ≠ "java/lang/invoke/MethodHandle" ∧ yX0_bent.cls ≠ "java/lang/invoke/VarHandle" ∧ (parseMethodDescriptor yX0_bent.desc).map (fun d => d.parameters.length) = some 1 := by decide +kernel
theorem hd_X0_shareWith : yX0_shareWith.cls = RX0 ∧ yX0_shareWith.cls ≠ "java/lang/invoke/MethodHandle" ∧ yX0_shareWith.cls ≠ "java/lang/invoke/VarHandle" ∧ (parseMethodDescriptor yX0_shareWith.desc).map (fun d => d.parameters.length) = some 2 := by decide +kernel
theorem hd_X10_append : yX10_append.cls = RX10 ∧ yX10_append.cls ≠ "java/lang/invoke/MethodHandle" ∧ yX10_append.cls ≠ "java/lang/invoke/VarHandle" ∧ (parseMethodDescriptor yX10_append.desc).map (fun d => d.parameters.length) = some 2 := by decide +kernel
theorem hd_X10_at : yX10_at.cls = RX10 ∧ yX10_at.cls ≠ "java/lang/invoke/MethodHandle" ∧ yX10_at.cls ≠ "java/lang/invoke/VarHandle" ∧ (parseMethodDescriptor yX10_at.desc).map (fun d => d.parameters.length) = some 1 := by decide +kernel
theorem hd_X10_clear : yX10_clear.cls = RX10 ∧ yX10_clear.cls ≠ "java/lang/invoke/MethodHandle" ∧ yX10_clear.cls ≠ "java/lang/invoke/VarHandle" ∧ (parseMethodDescriptor yX10_clear.desc).map (fun d => d.parameters.length) = some 0 := by decide +kernel
theorem hd_X11_arc : yX11_arc.cls = RX11 ∧ yX11_arc.cls ≠ "java/lang/invoke/MethodHandle" ∧ yX11_arc.cls ≠ "java/lang/invoke/VarHandle" ∧ (parseMethodDescriptor yX11_arc.desc).map (fun d => d.parameters.length) = some 3 := by decide +kernel
theorem hd_X11_count : yX11_count.cls = RX11 ∧ yX11_count.cls ≠ "java/lang/invoke/MethodHandle" ∧ yX11_count.cls ≠ "java/lang/invoke/VarHandle" ∧ (parseMethodDescriptor yX11_count.desc).map (fun d => d.parameters.length) = some 1 := by decide +kernel
theorem hd_X11_event : yX11_event.cls = RX11 ∧ yX11_event.cls ≠ "java/lang/invoke/MethodHandle" ∧ yX11_event.cls ≠ "java/lang/invoke/VarHandle" ∧ (parseMethodDescriptor yX11_event.desc).map (fun d => d.parameters.length) = some 2 := by decide +kernel
theorem hd_X11_feed : yX11_feed.cls = RX11 ∧ yX11_feed.cls ≠ "java/lang/invoke/MethodHandle" ∧ yX11_feed.cls ≠ "java/lang/invoke/VarHandle" ∧ (parseMethodDescriptor yX11_feed.desc).map (fun d => d.parameters.length) = some 2 := by decide +kernel
theorem hd_X11_isTick : yX11_isTick.cls ≠ "java/lang/invoke/MethodHandle" ∧ yX11_isTick.cls ≠ "java/lang/invoke/VarHandle" ∧ (parseMethodDescriptor yX11_isTick.desc).map (fun d => d.parameters.length) = some 1 := by decide +kernel
theorem hd_X11_isVoice : yX11_isVoice.cls ≠ "java/lang/invoke/MethodHandle" ∧ yX11_isVoice.cls ≠ "java/lang/invoke/VarHandle" ∧ (parseMethodDescriptor yX11_isVoice.desc).map (fun d => d.parameters.length) = some 1 := by decide +kernel
theorem hd_X11_isWithin : yX11_isWithin.cls ≠ "java/lang/invoke/MethodHandle" ∧ yX11_isWithin.cls ≠ "java/lang/invoke/VarHandle" ∧ (parseMethodDescriptor yX11_isWithin.desc).map (fun d => d.parameters.length) = some 3 := by decide +kernel
theorem hd_X11_level : yX11_level.cls = RX11 ∧ yX11_level.cls ≠ "java/lang/invoke/MethodHandle" ∧ yX11_level.cls ≠ "java/lang/invoke/VarHandle" ∧ (parseMethodDescriptor yX11_level.desc).map (fun d => d.parameters.length) = some 3 := by decide +kernel
theorem hd_X11_levelAt : yX11_levelAt.cls = RX11 ∧ yX11_levelAt.cls ≠ "java/lang/invoke/MethodHandle" ∧ yX11_levelAt.cls ≠ "java/lang/invoke/VarHandle" ∧ (parseMethodDescriptor yX11_levelAt.desc).map (fun d => d.parameters.length) = some 1 := by decide +kernel
theorem hd_X11_mark : yX11_mark.cls = RX11 ∧ yX11_mark.cls ≠ "java/lang/invoke/MethodHandle" ∧ yX11_mark.cls ≠ "java/lang/invoke/VarHandle" ∧ (parseMethodDescriptor yX11_mark.desc).map (fun d => d.parameters.length) = some 2 := by decide +kernel
theorem hd_X11_meter : yX11_meter.cls = RX11 ∧ yX11_meter.cls ≠ "java/lang/invoke/MethodHandle" ∧ yX11_meter.cls ≠ "java/lang/invoke/VarHandle" ∧ (parseMethodDescriptor yX11_meter.desc).map (fun d => d.parameters.length) = some 2 := by decide +kernel
theorem hd_X11_note : yX11_note.cls = RX11 ∧ yX11_note.cls ≠ "java/lang/invoke/MethodHandle" ∧ yX11_note.cls ≠ "java/lang/invoke/VarHandle" ∧ (parseMethodDescriptor yX11_note.desc).map (fun d => d.parameters.length) = some 5 := by decide +kernel
theorem hd_X11_perform : yX11_perform.cls = RX11 ∧ yX11_perform.cls ≠ "java/lang/invoke/MethodHandle" ∧ yX11_perform.cls ≠ "java/lang/invoke/VarHandle" ∧ (parseMethodDescriptor yX11_perform.desc).map (fun d => d.parameters.length) = some 0 := by decide +kernel
theorem hd_X11_plain : yX11_plain.cls = RX11 ∧ yX11_plain.cls ≠ "java/lang/invoke/MethodHandle" ∧ yX11_plain.cls ≠ "java/lang/invoke/VarHandle" ∧ (parseMethodDescriptor yX11_plain.desc).map (fun d => d.parameters.length) = some 0 := by decide +kernel
theorem hd_X11_quotient : yX11_quotient.cls ≠ "java/lang/invoke/MethodHandle" ∧ yX11_quotient.cls ≠ "java/lang/invoke/VarHandle" ∧ (parseMethodDescriptor yX11_quotient.desc).map (fun d => d.parameters.length) = some 2 := by decide +kernel
theorem hd_X11_read : yX11_read.cls = RX11 ∧ yX11_read.cls ≠ "java/lang/invoke/MethodHandle" ∧ yX11_read.cls ≠ "java/lang/invoke/VarHandle" ∧ (parseMethodDescriptor yX11_read.desc).map (fun d => d.parameters.length) = some 0 := by decide +kernel
theorem hd_X11_rule : yX11_rule.cls = RX11 ∧ yX11_rule.cls ≠ "java/lang/invoke/MethodHandle" ∧ yX11_rule.cls ≠ "java/lang/invoke/VarHandle" ∧ (parseMethodDescriptor yX11_rule.desc).map (fun d => d.parameters.length) = some 2 := by decide +kernel
theorem hd_X11_sounding : yX11_sounding.cls = RX11 ∧ yX11_sounding.cls ≠ "java/lang/invoke/MethodHandle" ∧ yX11_sounding.cls ≠ "java/lang/invoke/VarHandle" ∧ (parseMethodDescriptor yX11_sounding.desc).map (fun d => d.parameters.length) = some 1 := by decide +kernel
theorem hd_X11_span : yX11_span.cls = RX11 ∧ yX11_span.cls ≠ "java/lang/invoke/MethodHandle" ∧ yX11_span.cls ≠ "java/lang/invoke/VarHandle" ∧ (parseMethodDescriptor yX11_span.desc).map (fun d => d.parameters.length) = some 2 := by decide +kernel
theorem hd_X11_timeOf : yX11_timeOf.cls = RX11 ∧ yX11_timeOf.cls ≠ "java/lang/invoke/MethodHandle" ∧ yX11_timeOf.cls ≠ "java/lang/invoke/VarHandle" ∧ (parseMethodDescriptor yX11_timeOf.desc).map (fun d => d.parameters.length) = some 1 := by decide +kernel
theorem hd_X11_value : yX11_value.cls = RX11 ∧ yX11_value.cls ≠ "java/lang/invoke/MethodHandle" ∧ yX11_value.cls ≠ "java/lang/invoke/VarHandle" ∧ (parseMethodDescriptor yX11_value.desc).map (fun d => d.parameters.length) = some 2 := by decide +kernel
theorem hd_X11_why : yX11_why.cls = RX11 ∧ yX11_why.cls ≠ "java/lang/invoke/MethodHandle" ∧ yX11_why.cls ≠ "java/lang/invoke/VarHandle" ∧ (parseMethodDescriptor yX11_why.desc).map (fun d => d.parameters.length) = some 2 := by decide +kernel
theorem hd_X12_arc : yX12_arc.cls = RX12 ∧ yX12_arc.cls ≠ "java/lang/invoke/MethodHandle" ∧ yX12_arc.cls ≠ "java/lang/invoke/VarHandle" ∧ (parseMethodDescriptor yX12_arc.desc).map (fun d => d.parameters.length) = some 3 := by decide +kernel
theorem hd_X12_at : yX12_at.cls = RX12 ∧ yX12_at.cls ≠ "java/lang/invoke/MethodHandle" ∧ yX12_at.cls ≠ "java/lang/invoke/VarHandle" ∧ (parseMethodDescriptor yX12_at.desc).map (fun d => d.parameters.length) = some 1 := by decide +kernel
theorem hd_X12_count : yX12_count.cls = RX12 ∧ yX12_count.cls ≠ "java/lang/invoke/MethodHandle" ∧ yX12_count.cls ≠ "java/lang/invoke/VarHandle" ∧ (parseMethodDescriptor yX12_count.desc).map (fun d => d.parameters.length) = some 1 := by decide +kernel
theorem hd_X12_counts : yX12_counts.cls = RX12 ∧ yX12_counts.cls ≠ "java/lang/invoke/MethodHandle" ∧ yX12_counts.cls ≠ "java/lang/invoke/VarHandle" ∧ (parseMethodDescriptor yX12_counts.desc).map (fun d => d.parameters.length) = some 2 := by decide +kernel
theorem hd_X12_cut : yX12_cut.cls = RX12 ∧ yX12_cut.cls ≠ "java/lang/invoke/MethodHandle" ∧ yX12_cut.cls ≠ "java/lang/invoke/VarHandle" ∧ (parseMethodDescriptor yX12_cut.desc).map (fun d => d.parameters.length) = some 1 := by decide +kernel
theorem hd_X12_event : yX12_event.cls = RX12 ∧ yX12_event.cls ≠ "java/lang/invoke/MethodHandle" ∧ yX12_event.cls ≠ "java/lang/invoke/VarHandle" ∧ (parseMethodDescriptor yX12_event.desc).map (fun d => d.parameters.length) = some 2 := by decide +kernel
theorem hd_X12_feed : yX12_feed.cls = RX12 ∧ yX12_feed.cls ≠ "java/lang/invoke/MethodHandle" ∧ yX12_feed.cls ≠ "java/lang/invoke/VarHandle" ∧ (parseMethodDescriptor yX12_feed.desc).map (fun d => d.parameters.length) = some 2 := by decide +kernel
theorem hd_X12_floor : yX12_floor.cls ≠ "java/lang/invoke/MethodHandle" ∧ yX12_floor.cls ≠ "java/lang/invoke/VarHandle" ∧ (parseMethodDescriptor yX12_floor.desc).map (fun d => d.parameters.length) = some 2 := by decide +kernel
theorem hd_X12_has : yX12_has.cls = RX12 ∧ yX12_has.cls ≠ "java/lang/invoke/MethodHandle" ∧ yX12_has.cls ≠ "java/lang/invoke/VarHandle" ∧ (parseMethodDescriptor yX12_has.desc).map (fun d => d.parameters.length) = some 2 := by decide +kernel
theorem hd_X12_highAt : yX12_highAt.cls = RX12 ∧ yX12_highAt.cls ≠ "java/lang/invoke/MethodHandle" ∧ yX12_highAt.cls ≠ "java/lang/invoke/VarHandle" ∧ (parseMethodDescriptor yX12_highAt.desc).map (fun d => d.parameters.length) = some 1 := by decide +kernel
theorem hd_X12_highest : yX12_highest.cls ≠ "java/lang/invoke/MethodHandle" ∧ yX12_highest.cls ≠ "java/lang/invoke/VarHandle" ∧ (parseMethodDescriptor yX12_highest.desc).map (fun d => d.parameters.length) = some 1 := by decide +kernel
theorem hd_X12_in : yX12_in.cls ≠ "java/lang/invoke/MethodHandle" ∧ yX12_in.cls ≠ "java/lang/invoke/VarHandle" ∧ (parseMethodDescriptor yX12_in.desc).map (fun d => d.parameters.length) = some 3 := by decide +kernel
theorem hd_X12_isAhead : yX12_isAhead.cls = RX12 ∧ yX12_isAhead.cls ≠ "java/lang/invoke/MethodHandle" ∧ yX12_isAhead.cls ≠ "java/lang/invoke/VarHandle" ∧ (parseMethodDescriptor yX12_isAhead.desc).map (fun d => d.parameters.length) = some 2 := by decide +kernel
theorem hd_X12_isNote : yX12_isNote.cls = RX12 ∧ yX12_isNote.cls ≠ "java/lang/invoke/MethodHandle" ∧ yX12_isNote.cls ≠ "java/lang/invoke/VarHandle" ∧ (parseMethodDescriptor yX12_isNote.desc).map (fun d => d.parameters.length) = some 1 := by decide +kernel
theorem hd_X12_isNumber : yX12_isNumber.cls = RX12 ∧ yX12_isNumber.cls ≠ "java/lang/invoke/MethodHandle" ∧ yX12_isNumber.cls ≠ "java/lang/invoke/VarHandle" ∧ (parseMethodDescriptor yX12_isNumber.desc).map (fun d => d.parameters.length) = some 2 := by decide +kernel
theorem hd_X12_lesser : yX12_lesser.cls ≠ "java/lang/invoke/MethodHandle" ∧ yX12_lesser.cls ≠ "java/lang/invoke/VarHandle" ∧ (parseMethodDescriptor yX12_lesser.desc).map (fun d => d.parameters.length) = some 2 := by decide +kernel
theorem hd_X12_level : yX12_level.cls = RX12 ∧ yX12_level.cls ≠ "java/lang/invoke/MethodHandle" ∧ yX12_level.cls ≠ "java/lang/invoke/VarHandle" ∧ (parseMethodDescriptor yX12_level.desc).map (fun d => d.parameters.length) = some 3 := by decide +kernel
theorem hd_X12_levelAt : yX12_levelAt.cls = RX12 ∧ yX12_levelAt.cls ≠ "java/lang/invoke/MethodHandle" ∧ yX12_levelAt.cls ≠ "java/lang/invoke/VarHandle" ∧ (parseMethodDescriptor yX12_levelAt.desc).map (fun d => d.parameters.length) = some 1 := by decide +kernel
theorem hd_X12_levelBy : yX12_levelBy.cls = RX12 ∧ yX12_levelBy.cls ≠ "java/lang/invoke/MethodHandle" ∧ yX12_levelBy.cls ≠ "java/lang/invoke/VarHandle" ∧ (parseMethodDescriptor yX12_levelBy.desc).map (fun d => d.parameters.length) = some 2 := by decide +kernel
theorem hd_X12_longOf : yX12_longOf.cls = RX12 ∧ yX12_longOf.cls ≠ "java/lang/invoke/MethodHandle" ∧ yX12_longOf.cls ≠ "java/lang/invoke/VarHandle" ∧ (parseMethodDescriptor yX12_longOf.desc).map (fun d => d.parameters.length) = some 1 := by decide +kernel
theorem hd_X12_loudOf : yX12_loudOf.cls = RX12 ∧ yX12_loudOf.cls ≠ "java/lang/invoke/MethodHandle" ∧ yX12_loudOf.cls ≠ "java/lang/invoke/VarHandle" ∧ (parseMethodDescriptor yX12_loudOf.desc).map (fun d => d.parameters.length) = some 1 := by decide +kernel
theorem hd_X12_lowest : yX12_lowest.cls ≠ "java/lang/invoke/MethodHandle" ∧ yX12_lowest.cls ≠ "java/lang/invoke/VarHandle" ∧ (parseMethodDescriptor yX12_lowest.desc).map (fun d => d.parameters.length) = some 1 := by decide +kernel
theorem hd_X12_mark : yX12_mark.cls = RX12 ∧ yX12_mark.cls ≠ "java/lang/invoke/MethodHandle" ∧ yX12_mark.cls ≠ "java/lang/invoke/VarHandle" ∧ (parseMethodDescriptor yX12_mark.desc).map (fun d => d.parameters.length) = some 2 := by decide +kernel
theorem hd_X12_meter : yX12_meter.cls = RX12 ∧ yX12_meter.cls ≠ "java/lang/invoke/MethodHandle" ∧ yX12_meter.cls ≠ "java/lang/invoke/VarHandle" ∧ (parseMethodDescriptor yX12_meter.desc).map (fun d => d.parameters.length) = some 2 := by decide +kernel
theorem hd_X12_named : yX12_named.cls = RX12 ∧ yX12_named.cls ≠ "java/lang/invoke/MethodHandle" ∧ yX12_named.cls ≠ "java/lang/invoke/VarHandle" ∧ (parseMethodDescriptor yX12_named.desc).map (fun d => d.parameters.length) = some 0 := by decide +kernel
theorem hd_X12_note : yX12_note.cls = RX12 ∧ yX12_note.cls ≠ "java/lang/invoke/MethodHandle" ∧ yX12_note.cls ≠ "java/lang/invoke/VarHandle" ∧ (parseMethodDescriptor yX12_note.desc).map (fun d => d.parameters.length) = some 5 := by decide +kernel
theorem hd_X12_number : yX12_number.cls = RX12 ∧ yX12_number.cls ≠ "java/lang/invoke/MethodHandle" ∧ yX12_number.cls ≠ "java/lang/invoke/VarHandle" ∧ (parseMethodDescriptor yX12_number.desc).map (fun d => d.parameters.length) = some 2 := by decide +kernel
theorem hd_X12_onOf : yX12_onOf.cls = RX12 ∧ yX12_onOf.cls ≠ "java/lang/invoke/MethodHandle" ∧ yX12_onOf.cls ≠ "java/lang/invoke/VarHandle" ∧ (parseMethodDescriptor yX12_onOf.desc).map (fun d => d.parameters.length) = some 1 := by decide +kernel
theorem hd_X12_perform : yX12_perform.cls = RX12 ∧ yX12_perform.cls ≠ "java/lang/invoke/MethodHandle" ∧ yX12_perform.cls ≠ "java/lang/invoke/VarHandle" ∧ (parseMethodDescriptor yX12_perform.desc).map (fun d => d.parameters.length) = some 0 := by decide +kernel
theorem hd_X12_performNote : yX12_performNote.cls = RX12 ∧ yX12_performNote.cls ≠ "java/lang/invoke/MethodHandle" ∧ yX12_performNote.cls ≠ "java/lang/invoke/VarHandle" ∧ (parseMethodDescriptor yX12_performNote.desc).map (fun d => d.parameters.length) = some 1 := by decide +kernel
theorem hd_X12_plain : yX12_plain.cls = RX12 ∧ yX12_plain.cls ≠ "java/lang/invoke/MethodHandle" ∧ yX12_plain.cls ≠ "java/lang/invoke/VarHandle" ∧ (parseMethodDescriptor yX12_plain.desc).map (fun d => d.parameters.length) = some 0 := by decide +kernel
theorem hd_X12_read : yX12_read.cls = RX12 ∧ yX12_read.cls ≠ "java/lang/invoke/MethodHandle" ∧ yX12_read.cls ≠ "java/lang/invoke/VarHandle" ∧ (parseMethodDescriptor yX12_read.desc).map (fun d => d.parameters.length) = some 0 := by decide +kernel
theorem hd_X12_rolledAhead : yX12_rolledAhead.cls = RX12 ∧ yX12_rolledAhead.cls ≠ "java/lang/invoke/MethodHandle" ∧ yX12_rolledAhead.cls ≠ "java/lang/invoke/VarHandle" ∧ (parseMethodDescriptor yX12_rolledAhead.desc).map (fun d => d.parameters.length) = some 1 := by decide +kernel
theorem hd_X12_rule : yX12_rule.cls = RX12 ∧ yX12_rule.cls ≠ "java/lang/invoke/MethodHandle" ∧ yX12_rule.cls ≠ "java/lang/invoke/VarHandle" ∧ (parseMethodDescriptor yX12_rule.desc).map (fun d => d.parameters.length) = some 2 := by decide +kernel
theorem hd_X12_sounding : yX12_sounding.cls = RX12 ∧ yX12_sounding.cls ≠ "java/lang/invoke/MethodHandle" ∧ yX12_sounding.cls ≠ "java/lang/invoke/VarHandle" ∧ (parseMethodDescriptor yX12_sounding.desc).map (fun d => d.parameters.length) = some 1 := by decide +kernel
theorem hd_X12_sounds : yX12_sounds.cls = RX12 ∧ yX12_sounds.cls ≠ "java/lang/invoke/MethodHandle" ∧ yX12_sounds.cls ≠ "java/lang/invoke/VarHandle" ∧ (parseMethodDescriptor yX12_sounds.desc).map (fun d => d.parameters.length) = some 5 := by decide +kernel
theorem hd_X12_span : yX12_span.cls = RX12 ∧ yX12_span.cls ≠ "java/lang/invoke/MethodHandle" ∧ yX12_span.cls ≠ "java/lang/invoke/VarHandle" ∧ (parseMethodDescriptor yX12_span.desc).map (fun d => d.parameters.length) = some 2 := by decide +kernel
theorem hd_X12_take : yX12_take.cls = RX12 ∧ yX12_take.cls ≠ "java/lang/invoke/MethodHandle" ∧ yX12_take.cls ≠ "java/lang/invoke/VarHandle" ∧ (parseMethodDescriptor yX12_take.desc).map (fun d => d.parameters.length) = some 0 := by decide +kernel
theorem hd_X12_takeRule : yX12_takeRule.cls = RX12 ∧ yX12_takeRule.cls ≠ "java/lang/invoke/MethodHandle" ∧ yX12_takeRule.cls ≠ "java/lang/invoke/VarHandle" ∧ (parseMethodDescriptor yX12_takeRule.desc).map (fun d => d.parameters.length) = some 1 := by decide +kernel
theorem hd_X12_time : yX12_time.cls = RX12 ∧ yX12_time.cls ≠ "java/lang/invoke/MethodHandle" ∧ yX12_time.cls ≠ "java/lang/invoke/VarHandle" ∧ (parseMethodDescriptor yX12_time.desc).map (fun d => d.parameters.length) = some 1 := by decide +kernel
theorem hd_X12_timeOf : yX12_timeOf.cls = RX12 ∧ yX12_timeOf.cls ≠ "java/lang/invoke/MethodHandle" ∧ yX12_timeOf.cls ≠ "java/lang/invoke/VarHandle" ∧ (parseMethodDescriptor yX12_timeOf.desc).map (fun d => d.parameters.length) = some 1 := by decide +kernel
theorem hd_X12_trill : yX12_trill.cls = RX12 ∧ yX12_trill.cls ≠ "java/lang/invoke/MethodHandle" ∧ yX12_trill.cls ≠ "java/lang/invoke/VarHandle" ∧ (parseMethodDescriptor yX12_trill.desc).map (fun d => d.parameters.length) = some 3 := by decide +kernel
theorem hd_X12_usual : yX12_usual.cls ≠ "java/lang/invoke/MethodHandle" ∧ yX12_usual.cls ≠ "java/lang/invoke/VarHandle" ∧ (parseMethodDescriptor yX12_usual.desc).map (fun d => d.parameters.length) = some 1 := by decide +kernel
theorem hd_X12_value : yX12_value.cls = RX12 ∧ yX12_value.cls ≠ "java/lang/invoke/MethodHandle" ∧ yX12_value.cls ≠ "java/lang/invoke/VarHandle" ∧ (parseMethodDescriptor yX12_value.desc).map (fun d => d.parameters.length) = some 2 := by decide +kernel
theorem hd_X12_why : yX12_why.cls = RX12 ∧ yX12_why.cls ≠ "java/lang/invoke/MethodHandle" ∧ yX12_why.cls ≠ "java/lang/invoke/VarHandle" ∧ (parseMethodDescriptor yX12_why.desc).map (fun d => d.parameters.length) = some 2 := by decide +kernel
theorem hd_X12_word : yX12_word.cls ≠ "java/lang/invoke/MethodHandle" ∧ yX12_word.cls ≠ "java/lang/invoke/VarHandle" ∧ (parseMethodDescriptor yX12_word.desc).map (fun d => d.parameters.length) = some 6 := by decide +kernel
theorem hd_X12_wordOf : yX12_wordOf.cls ≠ "java/lang/invoke/MethodHandle" ∧ yX12_wordOf.cls ≠ "java/lang/invoke/VarHandle" ∧ (parseMethodDescriptor yX12_wordOf.desc).map (fun d => d.parameters.length) = some 1 := by decide +kernel
theorem hd_X1_add : yX1_add.cls = RX1 ∧ yX1_add.cls ≠ "java/lang/invoke/MethodHandle" ∧ yX1_add.cls ≠ "java/lang/invoke/VarHandle" ∧ (parseMethodDescriptor yX1_add.desc).map (fun d => d.parameters.length) = some 7 := by decide +kernel
theorem hd_X1_bend : yX1_bend.cls = RX1 ∧ yX1_bend.cls ≠ "java/lang/invoke/MethodHandle" ∧ yX1_bend.cls ≠ "java/lang/invoke/VarHandle" ∧ (parseMethodDescriptor yX1_bend.desc).map (fun d => d.parameters.length) = some 1 := by decide +kernel
theorem hd_X1_clear : yX1_clear.cls = RX1 ∧ yX1_clear.cls ≠ "java/lang/invoke/MethodHandle" ∧ yX1_clear.cls ≠ "java/lang/invoke/VarHandle" ∧ (parseMethodDescriptor yX1_clear.desc).map (fun d => d.parameters.length) = some 0 := by decide +kernel
theorem hd_X1_endAtRepeat : yX1_endAtRepeat.cls = RX1 ∧ yX1_endAtRepeat.cls ≠ "java/lang/invoke/MethodHandle" ∧ yX1_endAtRepeat.cls ≠ "java/lang/invoke/VarHandle" ∧ (parseMethodDescriptor yX1_endAtRepeat.desc).map (fun d => d.parameters.length) = some 1 := by decide +kernel
theorem hd_X1_endAtRepeats : yX1_endAtRepeats.cls = RX1 ∧ yX1_endAtRepeats.cls ≠ "java/lang/invoke/MethodHandle" ∧ yX1_endAtRepeats.cls ≠ "java/lang/invoke/VarHandle" ∧ (parseMethodDescriptor yX1_endAtRepeats.desc).map (fun d => d.parameters.length) = some 0 := by decide +kernel
theorem hd_X1_endOf : yX1_endOf.cls = RX1 ∧ yX1_endOf.cls ≠ "java/lang/invoke/MethodHandle" ∧ yX1_endOf.cls ≠ "java/lang/invoke/VarHandle" ∧ (parseMethodDescriptor yX1_endOf.desc).map (fun d => d.parameters.length) = some 1 := by decide +kernel
theorem hd_X1_firstBeginOf : yX1_firstBeginOf.cls = RX1 ∧ yX1_firstBeginOf.cls ≠ "java/lang/invoke/MethodHandle" ∧ yX1_firstBeginOf.cls ≠ "java/lang/invoke/VarHandle" ∧ (parseMethodDescriptor yX1_firstBeginOf.desc).map (fun d => d.parameters.length) = some 1 := by decide +kernel
theorem hd_X1_has : yX1_has.cls = RX1 ∧ yX1_has.cls ≠ "java/lang/invoke/MethodHandle" ∧ yX1_has.cls ≠ "java/lang/invoke/VarHandle" ∧ (parseMethodDescriptor yX1_has.desc).map (fun d => d.parameters.length) = some 1 := by decide +kernel
theorem hd_X1_howManyOf : yX1_howManyOf.cls = RX1 ∧ yX1_howManyOf.cls ≠ "java/lang/invoke/MethodHandle" ∧ yX1_howManyOf.cls ≠ "java/lang/invoke/VarHandle" ∧ (parseMethodDescriptor yX1_howManyOf.desc).map (fun d => d.parameters.length) = some 1 := by decide +kernel
theorem hd_X1_lastEndOf : yX1_lastEndOf.cls = RX1 ∧ yX1_lastEndOf.cls ≠ "java/lang/invoke/MethodHandle" ∧ yX1_lastEndOf.cls ≠ "java/lang/invoke/VarHandle" ∧ (parseMethodDescriptor yX1_lastEndOf.desc).map (fun d => d.parameters.length) = some 1 := by decide +kernel
theorem hd_X1_repeats : yX1_repeats.cls = RX1 ∧ yX1_repeats.cls ≠ "java/lang/invoke/MethodHandle" ∧ yX1_repeats.cls ≠ "java/lang/invoke/VarHandle" ∧ (parseMethodDescriptor yX1_repeats.desc).map (fun d => d.parameters.length) = some 2 := by decide +kernel
theorem hd_X1_soundingAt : yX1_soundingAt.cls = RX1 ∧ yX1_soundingAt.cls ≠ "java/lang/invoke/MethodHandle" ∧ yX1_soundingAt.cls ≠ "java/lang/invoke/VarHandle" ∧ (parseMethodDescriptor yX1_soundingAt.desc).map (fun d => d.parameters.length) = some 1 := by decide +kernel
theorem hd_X1_takeInOrder : yX1_takeInOrder.cls = RX1 ∧ yX1_takeInOrder.cls ≠ "java/lang/invoke/MethodHandle" ∧ yX1_takeInOrder.cls ≠ "java/lang/invoke/VarHandle" ∧ (parseMethodDescriptor yX1_takeInOrder.desc).map (fun d => d.parameters.length) = some 2 := by decide +kernel
theorem hd_X2_at : yX2_at.cls = RX2 ∧ yX2_at.cls ≠ "java/lang/invoke/MethodHandle" ∧ yX2_at.cls ≠ "java/lang/invoke/VarHandle" ∧ (parseMethodDescriptor yX2_at.desc).map (fun d => d.parameters.length) = some 1 := by decide +kernel
theorem hd_X2_moveUpFrom : yX2_moveUpFrom.cls = RX2 ∧ yX2_moveUpFrom.cls ≠ "java/lang/invoke/MethodHandle" ∧ yX2_moveUpFrom.cls ≠ "java/lang/invoke/VarHandle" ∧ (parseMethodDescriptor yX2_moveUpFrom.desc).map (fun d => d.parameters.length) = some 1 := by decide +kernel
theorem hd_X2_put : yX2_put.cls = RX2 ∧ yX2_put.cls ≠ "java/lang/invoke/MethodHandle" ∧ yX2_put.cls ≠ "java/lang/invoke/VarHandle" ∧ (parseMethodDescriptor yX2_put.desc).map (fun d => d.parameters.length) = some 3 := by decide +kernel
theorem hd_X3_has : yX3_has.cls ≠ "java/lang/invoke/MethodHandle" ∧ yX3_has.cls ≠ "java/lang/invoke/VarHandle" ∧ (parseMethodDescriptor yX3_has.desc).map (fun d => d.parameters.length) = some 1 := by decide +kernel
theorem hd_X3_wordOf : yX3_wordOf.cls ≠ "java/lang/invoke/MethodHandle" ∧ yX3_wordOf.cls ≠ "java/lang/invoke/VarHandle" ∧ (parseMethodDescriptor yX3_wordOf.desc).map (fun d => d.parameters.length) = some 1 := by decide +kernel
theorem hd_X4_add : yX4_add.cls = RX4 ∧ yX4_add.cls ≠ "java/lang/invoke/MethodHandle" ∧ yX4_add.cls ≠ "java/lang/invoke/VarHandle" ∧ (parseMethodDescriptor yX4_add.desc).map (fun d => d.parameters.length) = some 5 := by decide +kernel
theorem hd_X4_changeMarks : yX4_changeMarks.cls = RX4 ∧ yX4_changeMarks.cls ≠ "java/lang/invoke/MethodHandle" ∧ yX4_changeMarks.cls ≠ "java/lang/invoke/VarHandle" ∧ (parseMethodDescriptor yX4_changeMarks.desc).map (fun d => d.parameters.length) = some 2 := by decide +kernel
theorem hd_X4_has : yX4_has.cls = RX4 ∧ yX4_has.cls ≠ "java/lang/invoke/MethodHandle" ∧ yX4_has.cls ≠ "java/lang/invoke/VarHandle" ∧ (parseMethodDescriptor yX4_has.desc).map (fun d => d.parameters.length) = some 1 := by decide +kernel
theorem hd_X4_isInChord : yX4_isInChord.cls = RX4 ∧ yX4_isInChord.cls ≠ "java/lang/invoke/MethodHandle" ∧ yX4_isInChord.cls ≠ "java/lang/invoke/VarHandle" ∧ (parseMethodDescriptor yX4_isInChord.desc).map (fun d => d.parameters.length) = some 2 := by decide +kernel
theorem hd_X4_isLower : yX4_isLower.cls = RX4 ∧ yX4_isLower.cls ≠ "java/lang/invoke/MethodHandle" ∧ yX4_isLower.cls ≠ "java/lang/invoke/VarHandle" ∧ (parseMethodDescriptor yX4_isLower.desc).map (fun d => d.parameters.length) = some 2 := by decide +kernel
theorem hd_X4_rolledAhead : yX4_rolledAhead.cls = RX4 ∧ yX4_rolledAhead.cls ≠ "java/lang/invoke/MethodHandle" ∧ yX4_rolledAhead.cls ≠ "java/lang/invoke/VarHandle" ∧ (parseMethodDescriptor yX4_rolledAhead.desc).map (fun d => d.parameters.length) = some 1 := by decide +kernel
theorem hd_X5_keyOf : yX5_keyOf.cls ≠ "java/lang/invoke/MethodHandle" ∧ yX5_keyOf.cls ≠ "java/lang/invoke/VarHandle" ∧ (parseMethodDescriptor yX5_keyOf.desc).map (fun d => d.parameters.length) = some 2 := by decide +kernel
theorem hd_X5_merge : yX5_merge.cls = RX5 ∧ yX5_merge.cls ≠ "java/lang/invoke/MethodHandle" ∧ yX5_merge.cls ≠ "java/lang/invoke/VarHandle" ∧ (parseMethodDescriptor yX5_merge.desc).map (fun d => d.parameters.length) = some 3 := by decide +kernel
theorem hd_X5_partAt : yX5_partAt.cls = RX5 ∧ yX5_partAt.cls ≠ "java/lang/invoke/MethodHandle" ∧ yX5_partAt.cls ≠ "java/lang/invoke/VarHandle" ∧ (parseMethodDescriptor yX5_partAt.desc).map (fun d => d.parameters.length) = some 1 := by decide +kernel
theorem hd_X5_sort : yX5_sort.cls = RX5 ∧ yX5_sort.cls ≠ "java/lang/invoke/MethodHandle" ∧ yX5_sort.cls ≠ "java/lang/invoke/VarHandle" ∧ (parseMethodDescriptor yX5_sort.desc).map (fun d => d.parameters.length) = some 1 := by decide +kernel
theorem hd_X6_addLean : yX6_addLean.cls = RX6 ∧ yX6_addLean.cls ≠ "java/lang/invoke/MethodHandle" ∧ yX6_addLean.cls ≠ "java/lang/invoke/VarHandle" ∧ (parseMethodDescriptor yX6_addLean.desc).map (fun d => d.parameters.length) = some 1 := by decide +kernel
theorem hd_X6_addPart : yX6_addPart.cls = RX6 ∧ yX6_addPart.cls ≠ "java/lang/invoke/MethodHandle" ∧ yX6_addPart.cls ≠ "java/lang/invoke/VarHandle" ∧ (parseMethodDescriptor yX6_addPart.desc).map (fun d => d.parameters.length) = some 4 := by decide +kernel
theorem hd_X6_addParts : yX6_addParts.cls = RX6 ∧ yX6_addParts.cls ≠ "java/lang/invoke/MethodHandle" ∧ yX6_addParts.cls ≠ "java/lang/invoke/VarHandle" ∧ (parseMethodDescriptor yX6_addParts.desc).map (fun d => d.parameters.length) = some 2 := by decide +kernel
theorem hd_X6_addTrill : yX6_addTrill.cls = RX6 ∧ yX6_addTrill.cls ≠ "java/lang/invoke/MethodHandle" ∧ yX6_addTrill.cls ≠ "java/lang/invoke/VarHandle" ∧ (parseMethodDescriptor yX6_addTrill.desc).map (fun d => d.parameters.length) = some 1 := by decide +kernel
theorem hd_X6_addTurn : yX6_addTurn.cls = RX6 ∧ yX6_addTurn.cls ≠ "java/lang/invoke/MethodHandle" ∧ yX6_addTurn.cls ≠ "java/lang/invoke/VarHandle" ∧ (parseMethodDescriptor yX6_addTurn.desc).map (fun d => d.parameters.length) = some 1 := by decide +kernel
theorem hd_X6_drawOf : yX6_drawOf.cls = RX6 ∧ yX6_drawOf.cls ≠ "java/lang/invoke/MethodHandle" ∧ yX6_drawOf.cls ≠ "java/lang/invoke/VarHandle" ∧ (parseMethodDescriptor yX6_drawOf.desc).map (fun d => d.parameters.length) = some 2 := by decide +kernel
theorem hd_X6_isMarked : yX6_isMarked.cls = RX6 ∧ yX6_isMarked.cls ≠ "java/lang/invoke/MethodHandle" ∧ yX6_isMarked.cls ≠ "java/lang/invoke/VarHandle" ∧ (parseMethodDescriptor yX6_isMarked.desc).map (fun d => d.parameters.length) = some 1 := by decide +kernel
theorem hd_X6_longOf : yX6_longOf.cls = RX6 ∧ yX6_longOf.cls ≠ "java/lang/invoke/MethodHandle" ∧ yX6_longOf.cls ≠ "java/lang/invoke/VarHandle" ∧ (parseMethodDescriptor yX6_longOf.desc).map (fun d => d.parameters.length) = some 2 := by decide +kernel
theorem hd_X6_loudOf : yX6_loudOf.cls = RX6 ∧ yX6_loudOf.cls ≠ "java/lang/invoke/MethodHandle" ∧ yX6_loudOf.cls ≠ "java/lang/invoke/VarHandle" ∧ (parseMethodDescriptor yX6_loudOf.desc).map (fun d => d.parameters.length) = some 3 := by decide +kernel
theorem hd_X6_makeParts : yX6_makeParts.cls = RX6 ∧ yX6_makeParts.cls ≠ "java/lang/invoke/MethodHandle" ∧ yX6_makeParts.cls ≠ "java/lang/invoke/VarHandle" ∧ (parseMethodDescriptor yX6_makeParts.desc).map (fun d => d.parameters.length) = some 3 := by decide +kernel
theorem hd_X6_onOf : yX6_onOf.cls = RX6 ∧ yX6_onOf.cls ≠ "java/lang/invoke/MethodHandle" ∧ yX6_onOf.cls ≠ "java/lang/invoke/VarHandle" ∧ (parseMethodDescriptor yX6_onOf.desc).map (fun d => d.parameters.length) = some 3 := by decide +kernel
theorem hd_X6_roll : yX6_roll.cls = RX6 ∧ yX6_roll.cls ≠ "java/lang/invoke/MethodHandle" ∧ yX6_roll.cls ≠ "java/lang/invoke/VarHandle" ∧ (parseMethodDescriptor yX6_roll.desc).map (fun d => d.parameters.length) = some 2 := by decide +kernel
theorem hd_X6_takeNote : yX6_takeNote.cls = RX6 ∧ yX6_takeNote.cls ≠ "java/lang/invoke/MethodHandle" ∧ yX6_takeNote.cls ≠ "java/lang/invoke/VarHandle" ∧ (parseMethodDescriptor yX6_takeNote.desc).map (fun d => d.parameters.length) = some 2 := by decide +kernel
theorem hd_X7_findFault : yX7_findFault.cls = RX7 ∧ yX7_findFault.cls ≠ "java/lang/invoke/MethodHandle" ∧ yX7_findFault.cls ≠ "java/lang/invoke/VarHandle" ∧ (parseMethodDescriptor yX7_findFault.desc).map (fun d => d.parameters.length) = some 2 := by decide +kernel
theorem hd_X7_isWord : yX7_isWord.cls = RX7 ∧ yX7_isWord.cls ≠ "java/lang/invoke/MethodHandle" ∧ yX7_isWord.cls ≠ "java/lang/invoke/VarHandle" ∧ (parseMethodDescriptor yX7_isWord.desc).map (fun d => d.parameters.length) = some 2 := by decide +kernel
theorem hd_X7_kindAt : yX7_kindAt.cls ≠ "java/lang/invoke/MethodHandle" ∧ yX7_kindAt.cls ≠ "java/lang/invoke/VarHandle" ∧ (parseMethodDescriptor yX7_kindAt.desc).map (fun d => d.parameters.length) = some 2 := by decide +kernel
theorem hd_X7_nameThere : yX7_nameThere.cls = RX7 ∧ yX7_nameThere.cls ≠ "java/lang/invoke/MethodHandle" ∧ yX7_nameThere.cls ≠ "java/lang/invoke/VarHandle" ∧ (parseMethodDescriptor yX7_nameThere.desc).map (fun d => d.parameters.length) = some 1 := by decide +kernel
theorem hd_X7_takeNumber : yX7_takeNumber.cls = RX7 ∧ yX7_takeNumber.cls ≠ "java/lang/invoke/MethodHandle" ∧ yX7_takeNumber.cls ≠ "java/lang/invoke/VarHandle" ∧ (parseMethodDescriptor yX7_takeNumber.desc).map (fun d => d.parameters.length) = some 3 := by decide +kernel
theorem hd_X7_takePiece : yX7_takePiece.cls = RX7 ∧ yX7_takePiece.cls ≠ "java/lang/invoke/MethodHandle" ∧ yX7_takePiece.cls ≠ "java/lang/invoke/VarHandle" ∧ (parseMethodDescriptor yX7_takePiece.desc).map (fun d => d.parameters.length) = some 1 := by decide +kernel
theorem hd_X7_takeRule : yX7_takeRule.cls = RX7 ∧ yX7_takeRule.cls ≠ "java/lang/invoke/MethodHandle" ∧ yX7_takeRule.cls ≠ "java/lang/invoke/VarHandle" ∧ (parseMethodDescriptor yX7_takeRule.desc).map (fun d => d.parameters.length) = some 2 := by decide +kernel
theorem hd_X8_areFull : yX8_areFull.cls = RX8 ∧ yX8_areFull.cls ≠ "java/lang/invoke/MethodHandle" ∧ yX8_areFull.cls ≠ "java/lang/invoke/VarHandle" ∧ (parseMethodDescriptor yX8_areFull.desc).map (fun d => d.parameters.length) = some 0 := by decide +kernel
theorem hd_X8_clear : yX8_clear.cls = RX8 ∧ yX8_clear.cls ≠ "java/lang/invoke/MethodHandle" ∧ yX8_clear.cls ≠ "java/lang/invoke/VarHandle" ∧ (parseMethodDescriptor yX8_clear.desc).map (fun d => d.parameters.length) = some 0 := by decide +kernel
theorem hd_X8_countingFor : yX8_countingFor.cls = RX8 ∧ yX8_countingFor.cls ≠ "java/lang/invoke/MethodHandle" ∧ yX8_countingFor.cls ≠ "java/lang/invoke/VarHandle" ∧ (parseMethodDescriptor yX8_countingFor.desc).map (fun d => d.parameters.length) = some 2 := by decide +kernel
theorem hd_X8_dropStaged : yX8_dropStaged.cls = RX8 ∧ yX8_dropStaged.cls ≠ "java/lang/invoke/MethodHandle" ∧ yX8_dropStaged.cls ≠ "java/lang/invoke/VarHandle" ∧ (parseMethodDescriptor yX8_dropStaged.desc).map (fun d => d.parameters.length) = some 0 := by decide +kernel
theorem hd_X8_has : yX8_has.cls = RX8 ∧ yX8_has.cls ≠ "java/lang/invoke/MethodHandle" ∧ yX8_has.cls ≠ "java/lang/invoke/VarHandle" ∧ (parseMethodDescriptor yX8_has.desc).map (fun d => d.parameters.length) = some 1 := by decide +kernel
theorem hd_X8_isOutrankedBy : yX8_isOutrankedBy.cls = RX8 ∧ yX8_isOutrankedBy.cls ≠ "java/lang/invoke/MethodHandle" ∧ yX8_isOutrankedBy.cls ≠ "java/lang/invoke/VarHandle" ∧ (parseMethodDescriptor yX8_isOutrankedBy.desc).map (fun d => d.parameters.length) = some 2 := by decide +kernel
theorem hd_X8_keepStaged : yX8_keepStaged.cls = RX8 ∧ yX8_keepStaged.cls ≠ "java/lang/invoke/MethodHandle" ∧ yX8_keepStaged.cls ≠ "java/lang/invoke/VarHandle" ∧ (parseMethodDescriptor yX8_keepStaged.desc).map (fun d => d.parameters.length) = some 0 := by decide +kernel
theorem hd_X8_letCount : yX8_letCount.cls = RX8 ∧ yX8_letCount.cls ≠ "java/lang/invoke/MethodHandle" ∧ yX8_letCount.cls ≠ "java/lang/invoke/VarHandle" ∧ (parseMethodDescriptor yX8_letCount.desc).map (fun d => d.parameters.length) = some 1 := by decide +kernel
theorem hd_X8_numberFor : yX8_numberFor.cls = RX8 ∧ yX8_numberFor.cls ≠ "java/lang/invoke/MethodHandle" ∧ yX8_numberFor.cls ≠ "java/lang/invoke/VarHandle" ∧ (parseMethodDescriptor yX8_numberFor.desc).map (fun d => d.parameters.length) = some 2 := by decide +kernel
theorem hd_X8_stage : yX8_stage.cls = RX8 ∧ yX8_stage.cls ≠ "java/lang/invoke/MethodHandle" ∧ yX8_stage.cls ≠ "java/lang/invoke/VarHandle" ∧ (parseMethodDescriptor yX8_stage.desc).map (fun d => d.parameters.length) = some 4 := by decide +kernel
theorem hd_X9_beat : yX9_beat.cls = RX9 ∧ yX9_beat.cls ≠ "java/lang/invoke/MethodHandle" ∧ yX9_beat.cls ≠ "java/lang/invoke/VarHandle" ∧ (parseMethodDescriptor yX9_beat.desc).map (fun d => d.parameters.length) = some 2 := by decide +kernel
theorem hd_X9_beginsBar : yX9_beginsBar.cls = RX9 ∧ yX9_beginsBar.cls ≠ "java/lang/invoke/MethodHandle" ∧ yX9_beginsBar.cls ≠ "java/lang/invoke/VarHandle" ∧ (parseMethodDescriptor yX9_beginsBar.desc).map (fun d => d.parameters.length) = some 1 := by decide +kernel
theorem hd_X9_beginsBeat : yX9_beginsBeat.cls = RX9 ∧ yX9_beginsBeat.cls ≠ "java/lang/invoke/MethodHandle" ∧ yX9_beginsBeat.cls ≠ "java/lang/invoke/VarHandle" ∧ (parseMethodDescriptor yX9_beginsBeat.desc).map (fun d => d.parameters.length) = some 1 := by decide +kernel
theorem hd_X9_isMultiple : yX9_isMultiple.cls ≠ "java/lang/invoke/MethodHandle" ∧ yX9_isMultiple.cls ≠ "java/lang/invoke/VarHandle" ∧ (parseMethodDescriptor yX9_isMultiple.desc).map (fun d => d.parameters.length) = some 2 := by decide +kernel
theorem k27_X4_add : (.fieldLink RX4 27 "StyleRows$Notes" "howMany" "I" : Cond) ∈ wsX4_add := List.mem_of_getElem? (i := 1) rfl
theorem in_X4_X4_add : ∀ w ∈ u_ws RX4 TX4 6, w ∈ wsX4_add := mem_drop 7 rfl
theorem k11_X4_add : (.fieldLink RX4 11 "StyleRows$Notes" "voices" "[I" : Cond) ∈ wsX4_add := List.mem_of_getElem? (i := 2) rfl
theorem k15_X4_add : (.fieldLink RX4 15 "StyleRows$Notes" "starts" "[I" : Cond) ∈ wsX4_add := List.mem_of_getElem? (i := 3) rfl
theorem k18_X4_add : (.fieldLink RX4 18 "StyleRows$Notes" "lengths" "[I" : Cond) ∈ wsX4_add := List.mem_of_getElem? (i := 4) rfl
theorem k21_X4_add : (.fieldLink RX4 21 "StyleRows$Notes" "pitches" "[I" : Cond) ∈ wsX4_add := List.mem_of_getElem? (i := 5) rfl
theorem k24_X4_add : (.fieldLink RX4 24 "StyleRows$Notes" "marks" "[I" : Cond) ∈ wsX4_add := List.mem_of_getElem? (i := 6) rfl
theorem k16_X11_note : (.fieldLink RX11 16 "StyleRows" "score" "LStyleRows$Score;" : Cond) ∈ wsX11_note := List.mem_of_getElem? (i := 1) rfl
theorem in_X11_X11_note : ∀ w ∈ u_ws RX11 TX11 8, w ∈ wsX11_note := mem_drop 20 rfl
theorem in_X9_X11_note : ∀ w ∈ u_ws RX9 TX9 5, w ∈ wsX11_note := mem_drop 28 rfl
theorem k76_X12_note : (.constantLong RX12 76 (3) : Cond) ∈ wsX12_note := List.mem_of_getElem? (i := 1) rfl
theorem k82_X12_note : (.constantLong RX12 82 (9600) : Cond) ∈ wsX12_note := List.mem_of_getElem? (i := 2) rfl
theorem k84_X12_note : (.constantLong RX12 84 (960) : Cond) ∈ wsX12_note := List.mem_of_getElem? (i := 3) rfl
theorem k86_X12_note : (.constantLong RX12 86 (12) : Cond) ∈ wsX12_note := List.mem_of_getElem? (i := 4) rfl
theorem k88_X12_note : (.constantLong RX12 88 (115) : Cond) ∈ wsX12_note := List.mem_of_getElem? (i := 5) rfl
theorem k90_X12_note : (.constantLong RX12 90 (127) : Cond) ∈ wsX12_note := List.mem_of_getElem? (i := 6) rfl
theorem k92_X12_note : (.fieldLink RX12 92 "StyleRowsModel" "notes" "I" : Cond) ∈ wsX12_note := List.mem_of_getElem? (i := 7) rfl
theorem in_X12_X12_note : ∀ w ∈ u_ws RX12 TX12 35, w ∈ wsX12_note := mem_drop 17 rfl
theorem k7_X12_note : (.fieldLink RX12 7 "StyleRowsModel" "voice" "[I" : Cond) ∈ wsX12_note := List.mem_of_getElem? (i := 8) rfl
theorem k13_X12_note : (.fieldLink RX12 13 "StyleRowsModel" "start" "[I" : Cond) ∈ wsX12_note := List.mem_of_getElem? (i := 9) rfl
theorem k16_X12_note : (.fieldLink RX12 16 "StyleRowsModel" "length" "[I" : Cond) ∈ wsX12_note := List.mem_of_getElem? (i := 10) rfl
theorem k19_X12_note : (.fieldLink RX12 19 "StyleRowsModel" "pitch" "[I" : Cond) ∈ wsX12_note := List.mem_of_getElem? (i := 11) rfl
theorem k22_X12_note : (.fieldLink RX12 22 "StyleRowsModel" "marks" "[I" : Cond) ∈ wsX12_note := List.mem_of_getElem? (i := 12) rfl
theorem k27_X4_has : (.fieldLink RX4 27 "StyleRows$Notes" "howMany" "I" : Cond) ∈ wsX4_has := List.mem_of_getElem? (i := 1) rfl
theorem in_X4_X4_has : ∀ w ∈ u_ws RX4 TX4 6, w ∈ wsX4_has := mem_drop 5 rfl
theorem kiniX11_X4_has : (.initialized RX11 : Cond) ∈ wsX4_has := List.mem_of_getElem? (i := 3) rfl
theorem kstX11_isWithin_X4_has : (.static yX11_isWithin : Cond) ∈ wsX4_has := List.mem_of_getElem? (i := 2) rfl
theorem k24_X4_changeMarks : (.fieldLink RX4 24 "StyleRows$Notes" "marks" "[I" : Cond) ∈ wsX4_changeMarks := List.mem_of_getElem? (i := 1) rfl
theorem in_X4_X4_changeMarks : ∀ w ∈ u_ws RX4 TX4 6, w ∈ wsX4_changeMarks := mem_drop 2 rfl
theorem k16_X11_mark : (.fieldLink RX11 16 "StyleRows" "score" "LStyleRows$Score;" : Cond) ∈ wsX11_mark := List.mem_of_getElem? (i := 1) rfl
theorem in_X11_X11_mark : ∀ w ∈ u_ws RX11 TX11 8, w ∈ wsX11_mark := mem_drop 17 rfl
theorem in_X9_X11_mark : ∀ w ∈ u_ws RX9 TX9 5, w ∈ wsX11_mark := mem_drop 25 rfl
theorem k92_X12_isNote : (.fieldLink RX12 92 "StyleRowsModel" "notes" "I" : Cond) ∈ wsX12_isNote := List.mem_of_getElem? (i := 1) rfl
theorem in_X12_X12_isNote : ∀ w ∈ u_ws RX12 TX12 35, w ∈ wsX12_isNote := mem_drop 6 rfl
theorem k90_X12_mark : (.constantLong RX12 90 (127) : Cond) ∈ wsX12_mark := List.mem_of_getElem? (i := 1) rfl
theorem k22_X12_mark : (.fieldLink RX12 22 "StyleRowsModel" "marks" "[I" : Cond) ∈ wsX12_mark := List.mem_of_getElem? (i := 2) rfl
theorem in_X12_X12_mark : ∀ w ∈ u_ws RX12 TX12 35, w ∈ wsX12_mark := mem_drop 12 rfl
theorem k22_X2_moveUpFrom : (.fieldLink RX2 22 "StyleRows$Levels" "howMany" "I" : Cond) ∈ wsX2_moveUpFrom := List.mem_of_getElem? (i := 1) rfl
theorem in_X2_X2_moveUpFrom : ∀ w ∈ u_ws RX2 TX2 4, w ∈ wsX2_moveUpFrom := mem_drop 5 rfl
theorem k11_X2_moveUpFrom : (.fieldLink RX2 11 "StyleRows$Levels" "ticks" "[I" : Cond) ∈ wsX2_moveUpFrom := List.mem_of_getElem? (i := 2) rfl
theorem k15_X2_moveUpFrom : (.fieldLink RX2 15 "StyleRows$Levels" "heights" "[I" : Cond) ∈ wsX2_moveUpFrom := List.mem_of_getElem? (i := 3) rfl
theorem k18_X2_moveUpFrom : (.fieldLink RX2 18 "StyleRows$Levels" "swelling" "[Z" : Cond) ∈ wsX2_moveUpFrom := List.mem_of_getElem? (i := 4) rfl
theorem k22_X2_put : (.fieldLink RX2 22 "StyleRows$Levels" "howMany" "I" : Cond) ∈ wsX2_put := List.mem_of_getElem? (i := 1) rfl
theorem in_X2_X2_put : ∀ w ∈ u_ws RX2 TX2 4, w ∈ wsX2_put := mem_drop 10 rfl
theorem k11_X2_put : (.fieldLink RX2 11 "StyleRows$Levels" "ticks" "[I" : Cond) ∈ wsX2_put := List.mem_of_getElem? (i := 2) rfl
theorem k15_X2_put : (.fieldLink RX2 15 "StyleRows$Levels" "heights" "[I" : Cond) ∈ wsX2_put := List.mem_of_getElem? (i := 3) rfl
theorem k18_X2_put : (.fieldLink RX2 18 "StyleRows$Levels" "swelling" "[Z" : Cond) ∈ wsX2_put := List.mem_of_getElem? (i := 4) rfl
theorem k16_X11_level : (.fieldLink RX11 16 "StyleRows" "score" "LStyleRows$Score;" : Cond) ∈ wsX11_level := List.mem_of_getElem? (i := 1) rfl
theorem in_X11_X11_level : ∀ w ∈ u_ws RX11 TX11 8, w ∈ wsX11_level := mem_drop 22 rfl
theorem in_X9_X11_level : ∀ w ∈ u_ws RX9 TX9 5, w ∈ wsX11_level := mem_drop 30 rfl
theorem k99_X12_level : (.constantLong RX12 99 (20000) : Cond) ∈ wsX12_level := List.mem_of_getElem? (i := 1) rfl
theorem k90_X12_level : (.constantLong RX12 90 (127) : Cond) ∈ wsX12_level := List.mem_of_getElem? (i := 2) rfl
theorem k101_X12_level : (.fieldLink RX12 101 "StyleRowsModel" "levels" "I" : Cond) ∈ wsX12_level := List.mem_of_getElem? (i := 3) rfl
theorem in_X12_X12_level : ∀ w ∈ u_ws RX12 TX12 35, w ∈ wsX12_level := mem_drop 11 rfl
theorem k25_X12_level : (.fieldLink RX12 25 "StyleRowsModel" "levelTick" "[I" : Cond) ∈ wsX12_level := List.mem_of_getElem? (i := 4) rfl
theorem k28_X12_level : (.fieldLink RX12 28 "StyleRowsModel" "levelHigh" "[I" : Cond) ∈ wsX12_level := List.mem_of_getElem? (i := 5) rfl
theorem k31_X12_level : (.fieldLink RX12 31 "StyleRowsModel" "levelSwells" "[Z" : Cond) ∈ wsX12_level := List.mem_of_getElem? (i := 6) rfl
theorem k30_X9_beat : (.fieldLink RX9 30 "StyleRows$Score" "beats" "I" : Cond) ∈ wsX9_beat := List.mem_of_getElem? (i := 1) rfl
theorem in_X9_X9_beat : ∀ w ∈ u_ws RX9 TX9 5, w ∈ wsX9_beat := mem_drop 3 rfl
theorem k34_X9_beat : (.fieldLink RX9 34 "StyleRows$Score" "unit" "I" : Cond) ∈ wsX9_beat := List.mem_of_getElem? (i := 2) rfl
theorem k16_X11_meter : (.fieldLink RX11 16 "StyleRows" "score" "LStyleRows$Score;" : Cond) ∈ wsX11_meter := List.mem_of_getElem? (i := 1) rfl
theorem in_X11_X11_meter : ∀ w ∈ u_ws RX11 TX11 8, w ∈ wsX11_meter := mem_drop 13 rfl
theorem k86_X12_meter : (.constantLong RX12 86 (12) : Cond) ∈ wsX12_meter := List.mem_of_getElem? (i := 1) rfl
theorem k84_X12_meter : (.constantLong RX12 84 (960) : Cond) ∈ wsX12_meter := List.mem_of_getElem? (i := 2) rfl
theorem k35_X12_meter : (.fieldLink RX12 35 "StyleRowsModel" "beats" "I" : Cond) ∈ wsX12_meter := List.mem_of_getElem? (i := 3) rfl
theorem in_X12_X12_meter : ∀ w ∈ u_ws RX12 TX12 35, w ∈ wsX12_meter := mem_drop 9 rfl
theorem k39_X12_meter : (.fieldLink RX12 39 "StyleRowsModel" "unit" "I" : Cond) ∈ wsX12_meter := List.mem_of_getElem? (i := 4) rfl
theorem k21_X0_shareWith : (.fieldLink RX0 21 "StyleRows$Arcs" "howMany" "I" : Cond) ∈ wsX0_shareWith := List.mem_of_getElem? (i := 1) rfl
theorem in_X0_X0_shareWith : ∀ w ∈ u_ws RX0 TX0 4, w ∈ wsX0_shareWith := mem_drop 11 rfl
theorem k11_X0_shareWith : (.fieldLink RX0 11 "StyleRows$Arcs" "froms" "[I" : Cond) ∈ wsX0_shareWith := List.mem_of_getElem? (i := 2) rfl
theorem k25_X0_shareWith : (.methodLink RX0 25 Lib.Math.max.name : Cond) ∈ wsX0_shareWith := List.mem_of_getElem? (i := 3) rfl
theorem kstmax_X0_shareWith : (.static Lib.Math.max.name : Cond) ∈ wsX0_shareWith := List.mem_of_getElem? (i := 4) rfl
theorem kini_X0_shareWith : (.initialized "java/lang/Math" : Cond) ∈ wsX0_shareWith := List.mem_of_getElem? (i := 5) rfl
theorem kcomax_X0_shareWith : (.code Lib.Math.max.name Lib.Math.max.code 2 (some .int) : Cond) ∈ wsX0_shareWith := List.mem_of_getElem? (i := 6) rfl
theorem k15_X0_shareWith : (.fieldLink RX0 15 "StyleRows$Arcs" "tos" "[I" : Cond) ∈ wsX0_shareWith := List.mem_of_getElem? (i := 7) rfl
theorem k31_X0_shareWith : (.methodLink RX0 31 Lib.Math.min.name : Cond) ∈ wsX0_shareWith := List.mem_of_getElem? (i := 8) rfl
theorem kstmin_X0_shareWith : (.static Lib.Math.min.name : Cond) ∈ wsX0_shareWith := List.mem_of_getElem? (i := 9) rfl
theorem kcomin_X0_shareWith : (.code Lib.Math.min.name Lib.Math.min.code 2 (some .int) : Cond) ∈ wsX0_shareWith := List.mem_of_getElem? (i := 10) rfl
theorem k21_X0_add : (.fieldLink RX0 21 "StyleRows$Arcs" "howMany" "I" : Cond) ∈ wsX0_add := List.mem_of_getElem? (i := 1) rfl
theorem in_X0_X0_add : ∀ w ∈ u_ws RX0 TX0 4, w ∈ wsX0_add := mem_drop 5 rfl
theorem k11_X0_add : (.fieldLink RX0 11 "StyleRows$Arcs" "froms" "[I" : Cond) ∈ wsX0_add := List.mem_of_getElem? (i := 2) rfl
theorem k15_X0_add : (.fieldLink RX0 15 "StyleRows$Arcs" "tos" "[I" : Cond) ∈ wsX0_add := List.mem_of_getElem? (i := 3) rfl
theorem k18_X0_add : (.fieldLink RX0 18 "StyleRows$Arcs" "bys" "[I" : Cond) ∈ wsX0_add := List.mem_of_getElem? (i := 4) rfl
theorem k16_X11_arc : (.fieldLink RX11 16 "StyleRows" "score" "LStyleRows$Score;" : Cond) ∈ wsX11_arc := List.mem_of_getElem? (i := 1) rfl
theorem in_X11_X11_arc : ∀ w ∈ u_ws RX11 TX11 8, w ∈ wsX11_arc := mem_drop 29 rfl
theorem in_X9_X11_arc : ∀ w ∈ u_ws RX9 TX9 5, w ∈ wsX11_arc := mem_drop 37 rfl
theorem k104_X12_arc : (.constantLong RX12 104 (-400) : Cond) ∈ wsX12_arc := List.mem_of_getElem? (i := 1) rfl
theorem k106_X12_arc : (.constantLong RX12 106 (400) : Cond) ∈ wsX12_arc := List.mem_of_getElem? (i := 2) rfl
theorem k108_X12_arc : (.fieldLink RX12 108 "StyleRowsModel" "arcs" "I" : Cond) ∈ wsX12_arc := List.mem_of_getElem? (i := 3) rfl
theorem in_X12_X12_arc : ∀ w ∈ u_ws RX12 TX12 35, w ∈ wsX12_arc := mem_drop 11 rfl
theorem k42_X12_arc : (.fieldLink RX12 42 "StyleRowsModel" "arcFrom" "[I" : Cond) ∈ wsX12_arc := List.mem_of_getElem? (i := 5) rfl
theorem k45_X12_arc : (.fieldLink RX12 45 "StyleRowsModel" "arcTo" "[I" : Cond) ∈ wsX12_arc := List.mem_of_getElem? (i := 4) rfl
theorem k48_X12_arc : (.fieldLink RX12 48 "StyleRowsModel" "arcBy" "[I" : Cond) ∈ wsX12_arc := List.mem_of_getElem? (i := 6) rfl
theorem k22_X2_at : (.fieldLink RX2 22 "StyleRows$Levels" "howMany" "I" : Cond) ∈ wsX2_at := List.mem_of_getElem? (i := 1) rfl
theorem in_X2_X2_at : ∀ w ∈ u_ws RX2 TX2 4, w ∈ wsX2_at := mem_drop 12 rfl
theorem k15_X2_at : (.fieldLink RX2 15 "StyleRows$Levels" "heights" "[I" : Cond) ∈ wsX2_at := List.mem_of_getElem? (i := 4) rfl
theorem k18_X2_at : (.fieldLink RX2 18 "StyleRows$Levels" "swelling" "[Z" : Cond) ∈ wsX2_at := List.mem_of_getElem? (i := 3) rfl
theorem k11_X2_at : (.fieldLink RX2 11 "StyleRows$Levels" "ticks" "[I" : Cond) ∈ wsX2_at := List.mem_of_getElem? (i := 2) rfl
theorem kiniX11_X2_at : (.initialized RX11 : Cond) ∈ wsX2_at := List.mem_of_getElem? (i := 6) rfl
theorem kstX11_quotient_X2_at : (.static yX11_quotient : Cond) ∈ wsX2_at := List.mem_of_getElem? (i := 5) rfl
theorem k16_X11_levelAt : (.fieldLink RX11 16 "StyleRows" "score" "LStyleRows$Score;" : Cond) ∈ wsX11_levelAt := List.mem_of_getElem? (i := 1) rfl
theorem in_X11_X11_levelAt : ∀ w ∈ u_ws RX11 TX11 8, w ∈ wsX11_levelAt := mem_drop 24 rfl
theorem in_X9_X11_levelAt : ∀ w ∈ u_ws RX9 TX9 5, w ∈ wsX11_levelAt := mem_drop 32 rfl
theorem k101_X12_levelBy : (.fieldLink RX12 101 "StyleRowsModel" "levels" "I" : Cond) ∈ wsX12_levelBy := List.mem_of_getElem? (i := 1) rfl
theorem in_X12_X12_levelBy : ∀ w ∈ u_ws RX12 TX12 35, w ∈ wsX12_levelBy := mem_drop 3 rfl
theorem k25_X12_levelBy : (.fieldLink RX12 25 "StyleRowsModel" "levelTick" "[I" : Cond) ∈ wsX12_levelBy := List.mem_of_getElem? (i := 2) rfl
theorem k28_X12_highAt : (.fieldLink RX12 28 "StyleRowsModel" "levelHigh" "[I" : Cond) ∈ wsX12_highAt := List.mem_of_getElem? (i := 2) rfl
theorem in_X12_X12_highAt : ∀ w ∈ u_ws RX12 TX12 35, w ∈ wsX12_highAt := mem_drop 13 rfl
theorem k31_X12_highAt : (.fieldLink RX12 31 "StyleRowsModel" "levelSwells" "[Z" : Cond) ∈ wsX12_highAt := List.mem_of_getElem? (i := 1) rfl
theorem k25_X12_highAt : (.fieldLink RX12 25 "StyleRowsModel" "levelTick" "[I" : Cond) ∈ wsX12_highAt := List.mem_of_getElem? (i := 3) rfl
theorem k99_X12_levelAt : (.constantLong RX12 99 (20000) : Cond) ∈ wsX12_levelAt := List.mem_of_getElem? (i := 1) rfl
theorem k21_X0_bent : (.fieldLink RX0 21 "StyleRows$Arcs" "howMany" "I" : Cond) ∈ wsX0_bent := List.mem_of_getElem? (i := 1) rfl
theorem in_X0_X0_bent : ∀ w ∈ u_ws RX0 TX0 4, w ∈ wsX0_bent := mem_drop 15 rfl
theorem k11_X0_bent : (.fieldLink RX0 11 "StyleRows$Arcs" "froms" "[I" : Cond) ∈ wsX0_bent := List.mem_of_getElem? (i := 2) rfl
theorem k15_X0_bent : (.fieldLink RX0 15 "StyleRows$Arcs" "tos" "[I" : Cond) ∈ wsX0_bent := List.mem_of_getElem? (i := 3) rfl
theorem kiniX11_X0_bent : (.initialized RX11 : Cond) ∈ wsX0_bent := List.mem_of_getElem? (i := 7) rfl
theorem kstX11_isWithin_X0_bent : (.static yX11_isWithin : Cond) ∈ wsX0_bent := List.mem_of_getElem? (i := 6) rfl
theorem k38_X0_bent : (.constantLong RX0 38 (4) : Cond) ∈ wsX0_bent := List.mem_of_getElem? (i := 4) rfl
theorem k18_X0_bent : (.fieldLink RX0 18 "StyleRows$Arcs" "bys" "[I" : Cond) ∈ wsX0_bent := List.mem_of_getElem? (i := 5) rfl
theorem kstX11_quotient_X0_bent : (.static yX11_quotient : Cond) ∈ wsX0_bent := List.mem_of_getElem? (i := 9) rfl
theorem k16_X11_timeOf : (.fieldLink RX11 16 "StyleRows" "score" "LStyleRows$Score;" : Cond) ∈ wsX11_timeOf := List.mem_of_getElem? (i := 1) rfl
theorem in_X11_X11_timeOf : ∀ w ∈ u_ws RX11 TX11 8, w ∈ wsX11_timeOf := mem_drop 25 rfl
theorem in_X9_X11_timeOf : ∀ w ∈ u_ws RX9 TX9 5, w ∈ wsX11_timeOf := mem_drop 33 rfl
theorem k108_X12_time : (.fieldLink RX12 108 "StyleRowsModel" "arcs" "I" : Cond) ∈ wsX12_time := List.mem_of_getElem? (i := 1) rfl
theorem in_X12_X12_time : ∀ w ∈ u_ws RX12 TX12 35, w ∈ wsX12_time := mem_drop 10 rfl
theorem k42_X12_time : (.fieldLink RX12 42 "StyleRowsModel" "arcFrom" "[I" : Cond) ∈ wsX12_time := List.mem_of_getElem? (i := 2) rfl
theorem k45_X12_time : (.fieldLink RX12 45 "StyleRowsModel" "arcTo" "[I" : Cond) ∈ wsX12_time := List.mem_of_getElem? (i := 3) rfl
theorem k123_X12_time : (.constantLong RX12 123 (4) : Cond) ∈ wsX12_time := List.mem_of_getElem? (i := 4) rfl
theorem k48_X12_time : (.fieldLink RX12 48 "StyleRowsModel" "arcBy" "[I" : Cond) ∈ wsX12_time := List.mem_of_getElem? (i := 5) rfl
theorem k99_X12_timeOf : (.constantLong RX12 99 (20000) : Cond) ∈ wsX12_timeOf := List.mem_of_getElem? (i := 1) rfl
theorem k15_X10_append : (.fieldLink RX10 15 "StyleRows$Tape" "length" "I" : Cond) ∈ wsX10_append := List.mem_of_getElem? (i := 1) rfl
theorem in_X10_X10_append : ∀ w ∈ u_ws RX10 TX10 2, w ∈ wsX10_append := mem_drop 3 rfl
theorem k11_X10_append : (.fieldLink RX10 11 "StyleRows$Tape" "bytes" "[B" : Cond) ∈ wsX10_append := List.mem_of_getElem? (i := 2) rfl
theorem k23_X11_feed : (.fieldLink RX11 23 "StyleRows" "tape" "LStyleRows$Tape;" : Cond) ∈ wsX11_feed := List.mem_of_getElem? (i := 1) rfl
theorem in_X11_X11_feed : ∀ w ∈ u_ws RX11 TX11 8, w ∈ wsX11_feed := mem_drop 13 rfl
theorem k128_X12_feed : (.constantLong RX12 128 (8) : Cond) ∈ wsX12_feed := List.mem_of_getElem? (i := 1) rfl
theorem k130_X12_feed : (.fieldLink RX12 130 "StyleRowsModel" "size" "I" : Cond) ∈ wsX12_feed := List.mem_of_getElem? (i := 2) rfl
theorem in_X12_X12_feed : ∀ w ∈ u_ws RX12 TX12 35, w ∈ wsX12_feed := mem_drop 9 rfl
theorem k63_X12_feed : (.fieldLink RX12 63 "StyleRowsModel" "tape" "[I" : Cond) ∈ wsX12_feed := List.mem_of_getElem? (i := 3) rfl
theorem k133_X12_feed : (.constantLong RX12 133 (255) : Cond) ∈ wsX12_feed := List.mem_of_getElem? (i := 4) rfl
theorem k26_X8_dropStaged : (.fieldLink RX8 26 "StyleRows$Rules" "howMany" "I" : Cond) ∈ wsX8_dropStaged := List.mem_of_getElem? (i := 1) rfl
theorem in_X8_X8_dropStaged : ∀ w ∈ u_ws RX8 TX8 4, w ∈ wsX8_dropStaged := mem_drop 3 rfl
theorem k30_X8_dropStaged : (.fieldLink RX8 30 "StyleRows$Rules" "withStaged" "I" : Cond) ∈ wsX8_dropStaged := List.mem_of_getElem? (i := 2) rfl
theorem k15_X10_at : (.fieldLink RX10 15 "StyleRows$Tape" "length" "I" : Cond) ∈ wsX10_at := List.mem_of_getElem? (i := 1) rfl
theorem in_X10_X10_at : ∀ w ∈ u_ws RX10 TX10 2, w ∈ wsX10_at := mem_drop 3 rfl
theorem k11_X10_at : (.fieldLink RX10 11 "StyleRows$Tape" "bytes" "[B" : Cond) ∈ wsX10_at := List.mem_of_getElem? (i := 2) rfl
theorem kiniX11_X7_kindAt : (.initialized RX11 : Cond) ∈ wsX7_kindAt := List.mem_of_getElem? (i := 9) rfl
theorem kstX11_isWithin_X7_kindAt : (.static yX11_isWithin : Cond) ∈ wsX7_kindAt := List.mem_of_getElem? (i := 8) rfl
theorem k14_X7_takePiece : (.fieldLink RX7 14 "StyleRows$Reader" "to" "I" : Cond) ∈ wsX7_takePiece := List.mem_of_getElem? (i := 1) rfl
theorem in_X7_X7_takePiece : ∀ w ∈ u_ws RX7 TX7 4, w ∈ wsX7_takePiece := mem_drop 18 rfl
theorem k31_X7_takePiece : (.fieldLink RX7 31 "StyleRows$Reader" "from" "I" : Cond) ∈ wsX7_takePiece := List.mem_of_getElem? (i := 2) rfl
theorem in_X10_X7_takePiece : ∀ w ∈ u_ws RX10 TX10 2, w ∈ wsX7_takePiece := mem_drop 22 rfl
theorem k24_X7_takePiece : (.fieldLink RX7 24 "StyleRows$Reader" "kind" "I" : Cond) ∈ wsX7_takePiece := List.mem_of_getElem? (i := 3) rfl
theorem k30_X8_areFull : (.fieldLink RX8 30 "StyleRows$Rules" "withStaged" "I" : Cond) ∈ wsX8_areFull := List.mem_of_getElem? (i := 1) rfl
theorem in_X8_X8_areFull : ∀ w ∈ u_ws RX8 TX8 4, w ∈ wsX8_areFull := mem_drop 2 rfl
theorem k24_X7_isWord : (.fieldLink RX7 24 "StyleRows$Reader" "kind" "I" : Cond) ∈ wsX7_isWord := List.mem_of_getElem? (i := 1) rfl
theorem in_X7_X7_isWord : ∀ w ∈ u_ws RX7 TX7 4, w ∈ wsX7_isWord := mem_drop 60 rfl
theorem k14_X7_isWord : (.fieldLink RX7 14 "StyleRows$Reader" "to" "I" : Cond) ∈ wsX7_isWord := List.mem_of_getElem? (i := 2) rfl
theorem k31_X7_isWord : (.fieldLink RX7 31 "StyleRows$Reader" "from" "I" : Cond) ∈ wsX7_isWord := List.mem_of_getElem? (i := 3) rfl
theorem k24_X7_takeNumber : (.fieldLink RX7 24 "StyleRows$Reader" "kind" "I" : Cond) ∈ wsX7_takeNumber := List.mem_of_getElem? (i := 1) rfl
theorem in_X7_X7_takeNumber : ∀ w ∈ u_ws RX7 TX7 4, w ∈ wsX7_takeNumber := mem_drop 28 rfl
theorem k48_X7_takeNumber : (.fieldLink RX7 48 "StyleRows$Reader" "number" "I" : Cond) ∈ wsX7_takeNumber := List.mem_of_getElem? (i := 2) rfl
theorem k31_X7_takeNumber : (.fieldLink RX7 31 "StyleRows$Reader" "from" "I" : Cond) ∈ wsX7_takeNumber := List.mem_of_getElem? (i := 3) rfl
theorem k14_X7_takeNumber : (.fieldLink RX7 14 "StyleRows$Reader" "to" "I" : Cond) ∈ wsX7_takeNumber := List.mem_of_getElem? (i := 4) rfl
theorem kiniX11_X7_takeNumber : (.initialized RX11 : Cond) ∈ wsX7_takeNumber := List.mem_of_getElem? (i := 18) rfl
theorem kstX11_isWithin_X7_takeNumber : (.static yX11_isWithin : Cond) ∈ wsX7_takeNumber := List.mem_of_getElem? (i := 17) rfl
theorem k76_X7_takeNumber : (.constant RX7 76 (1000000) : Cond) ∈ wsX7_takeNumber := List.mem_of_getElem? (i := 5) rfl
theorem k77_X7_takeNumber : (.methodLink RX7 77 Lib.Math.min.name : Cond) ∈ wsX7_takeNumber := List.mem_of_getElem? (i := 6) rfl
theorem kstmin_X7_takeNumber : (.static Lib.Math.min.name : Cond) ∈ wsX7_takeNumber := List.mem_of_getElem? (i := 7) rfl
theorem kini_X7_takeNumber : (.initialized "java/lang/Math" : Cond) ∈ wsX7_takeNumber := List.mem_of_getElem? (i := 8) rfl
theorem kcomin_X7_takeNumber : (.code Lib.Math.min.name Lib.Math.min.code 2 (some .int) : Cond) ∈ wsX7_takeNumber := List.mem_of_getElem? (i := 9) rfl
theorem k13_X8_stage : (.fieldLink RX8 13 "StyleRows$Rules" "rows" "[[I" : Cond) ∈ wsX8_stage := List.mem_of_getElem? (i := 1) rfl
theorem in_X8_X8_stage : ∀ w ∈ u_ws RX8 TX8 4, w ∈ wsX8_stage := mem_drop 8 rfl
theorem k30_X8_stage : (.fieldLink RX8 30 "StyleRows$Rules" "withStaged" "I" : Cond) ∈ wsX8_stage := List.mem_of_getElem? (i := 2) rfl
theorem k48_X7_takeRule : (.fieldLink RX7 48 "StyleRows$Reader" "number" "I" : Cond) ∈ wsX7_takeRule := List.mem_of_getElem? (i := 1) rfl
theorem in_X7_X7_takeRule : ∀ w ∈ u_ws RX7 TX7 4, w ∈ wsX7_takeRule := mem_drop 105 rfl
theorem k31_X7_takeRule : (.fieldLink RX7 31 "StyleRows$Reader" "from" "I" : Cond) ∈ wsX7_takeRule := List.mem_of_getElem? (i := 2) rfl
theorem k14_X7_findFault : (.fieldLink RX7 14 "StyleRows$Reader" "to" "I" : Cond) ∈ wsX7_findFault := List.mem_of_getElem? (i := 1) rfl
theorem in_X7_X7_findFault : ∀ w ∈ u_ws RX7 TX7 4, w ∈ wsX7_findFault := mem_drop 114 rfl
theorem k31_X7_findFault : (.fieldLink RX7 31 "StyleRows$Reader" "from" "I" : Cond) ∈ wsX7_findFault := List.mem_of_getElem? (i := 3) rfl
theorem k24_X7_findFault : (.fieldLink RX7 24 "StyleRows$Reader" "kind" "I" : Cond) ∈ wsX7_findFault := List.mem_of_getElem? (i := 2) rfl
theorem k15_X10_clear : (.fieldLink RX10 15 "StyleRows$Tape" "length" "I" : Cond) ∈ wsX10_clear := List.mem_of_getElem? (i := 1) rfl
theorem in_X10_X10_clear : ∀ w ∈ u_ws RX10 TX10 2, w ∈ wsX10_clear := mem_drop 2 rfl
theorem k13_X8_isOutrankedBy : (.fieldLink RX8 13 "StyleRows$Rules" "rows" "[[I" : Cond) ∈ wsX8_isOutrankedBy := List.mem_of_getElem? (i := 1) rfl
theorem in_X8_X8_isOutrankedBy : ∀ w ∈ u_ws RX8 TX8 4, w ∈ wsX8_isOutrankedBy := mem_drop 2 rfl
theorem k13_X8_letCount : (.fieldLink RX8 13 "StyleRows$Rules" "rows" "[[I" : Cond) ∈ wsX8_letCount := List.mem_of_getElem? (i := 1) rfl
theorem in_X8_X8_letCount : ∀ w ∈ u_ws RX8 TX8 4, w ∈ wsX8_letCount := mem_drop 8 rfl
theorem k18_X8_letCount : (.fieldLink RX8 18 "StyleRows$Rules" "counting" "[I" : Cond) ∈ wsX8_letCount := List.mem_of_getElem? (i := 2) rfl
theorem k26_X8_keepStaged : (.fieldLink RX8 26 "StyleRows$Rules" "howMany" "I" : Cond) ∈ wsX8_keepStaged := List.mem_of_getElem? (i := 1) rfl
theorem in_X8_X8_keepStaged : ∀ w ∈ u_ws RX8 TX8 4, w ∈ wsX8_keepStaged := mem_drop 14 rfl
theorem k30_X8_keepStaged : (.fieldLink RX8 30 "StyleRows$Rules" "withStaged" "I" : Cond) ∈ wsX8_keepStaged := List.mem_of_getElem? (i := 2) rfl
theorem k37_X11_read : (.fieldLink RX11 37 "StyleRows" "reader" "LStyleRows$Reader;" : Cond) ∈ wsX11_read := List.mem_of_getElem? (i := 1) rfl
theorem in_X11_X11_read : ∀ w ∈ u_ws RX11 TX11 8, w ∈ wsX11_read := mem_drop 138 rfl
theorem k23_X11_read : (.fieldLink RX11 23 "StyleRows" "tape" "LStyleRows$Tape;" : Cond) ∈ wsX11_read := List.mem_of_getElem? (i := 2) rfl
theorem k30_X11_read : (.fieldLink RX11 30 "StyleRows" "rules" "LStyleRows$Rules;" : Cond) ∈ wsX11_read := List.mem_of_getElem? (i := 3) rfl
theorem k130_X12_at : (.fieldLink RX12 130 "StyleRowsModel" "size" "I" : Cond) ∈ wsX12_at := List.mem_of_getElem? (i := 1) rfl
theorem in_X12_X12_at : ∀ w ∈ u_ws RX12 TX12 35, w ∈ wsX12_at := mem_drop 3 rfl
theorem k63_X12_at : (.fieldLink RX12 63 "StyleRowsModel" "tape" "[I" : Cond) ∈ wsX12_at := List.mem_of_getElem? (i := 2) rfl
theorem k135_X12_take : (.fieldLink RX12 135 "StyleRowsModel" "next" "I" : Cond) ∈ wsX12_take := List.mem_of_getElem? (i := 1) rfl
theorem in_X12_X12_take : ∀ w ∈ u_ws RX12 TX12 35, w ∈ wsX12_take := mem_drop 24 rfl
theorem k141_X12_take : (.fieldLink RX12 141 "StyleRowsModel" "first" "I" : Cond) ∈ wsX12_take := List.mem_of_getElem? (i := 2) rfl
theorem k144_X12_take : (.fieldLink RX12 144 "StyleRowsModel" "told" "J" : Cond) ∈ wsX12_take := List.mem_of_getElem? (i := 3) rfl
theorem k147_X12_take : (.constantLong RX12 147 (97) : Cond) ∈ wsX12_take := List.mem_of_getElem? (i := 4) rfl
theorem k149_X12_take : (.constantLong RX12 149 (122) : Cond) ∈ wsX12_take := List.mem_of_getElem? (i := 5) rfl
theorem k160_X12_take : (.constantLong RX12 160 (48) : Cond) ∈ wsX12_take := List.mem_of_getElem? (i := 10) rfl
theorem k162_X12_take : (.constantLong RX12 162 (57) : Cond) ∈ wsX12_take := List.mem_of_getElem? (i := 11) rfl
theorem k151_X12_take : (.fieldLink RX12 151 "StyleRowsModel" "sort" "I" : Cond) ∈ wsX12_take := List.mem_of_getElem? (i := 6) rfl
theorem k164_X12_take : (.constantLong RX12 164 (100000) : Cond) ∈ wsX12_take := List.mem_of_getElem? (i := 12) rfl
theorem k166_X12_take : (.constantLong RX12 166 (10) : Cond) ∈ wsX12_take := List.mem_of_getElem? (i := 13) rfl
theorem k158_X12_take : (.constantLong RX12 158 (-1) : Cond) ∈ wsX12_take := List.mem_of_getElem? (i := 9) rfl
theorem k154_X12_take : (.constantLong RX12 154 (32) : Cond) ∈ wsX12_take := List.mem_of_getElem? (i := 7) rfl
theorem k156_X12_take : (.constantLong RX12 156 (96) : Cond) ∈ wsX12_take := List.mem_of_getElem? (i := 8) rfl
theorem k156_X12_word : (.constantLong RX12 156 (96) : Cond) ∈ wsX12_word := List.mem_of_getElem? (i := 1) rfl
theorem k154_X12_word : (.constantLong RX12 154 (32) : Cond) ∈ wsX12_word := List.mem_of_getElem? (i := 2) rfl
theorem k151_X12_isNumber : (.fieldLink RX12 151 "StyleRowsModel" "sort" "I" : Cond) ∈ wsX12_isNumber := List.mem_of_getElem? (i := 1) rfl
theorem in_X12_X12_isNumber : ∀ w ∈ u_ws RX12 TX12 35, w ∈ wsX12_isNumber := mem_drop 7 rfl
theorem k144_X12_isNumber : (.fieldLink RX12 144 "StyleRowsModel" "told" "J" : Cond) ∈ wsX12_isNumber := List.mem_of_getElem? (i := 2) rfl
theorem k144_X12_named : (.fieldLink RX12 144 "StyleRowsModel" "told" "J" : Cond) ∈ wsX12_named := List.mem_of_getElem? (i := 1) rfl
theorem in_X12_X12_named : ∀ w ∈ u_ws RX12 TX12 35, w ∈ wsX12_named := mem_drop 11 rfl
theorem k151_X12_takeRule : (.fieldLink RX12 151 "StyleRowsModel" "sort" "I" : Cond) ∈ wsX12_takeRule := List.mem_of_getElem? (i := 1) rfl
theorem in_X12_X12_takeRule : ∀ w ∈ u_ws RX12 TX12 35, w ∈ wsX12_takeRule := mem_drop 52 rfl
theorem k51_X12_takeRule : (.fieldLink RX12 51 "StyleRowsModel" "ruleVoice" "[I" : Cond) ∈ wsX12_takeRule := List.mem_of_getElem? (i := 2) rfl
theorem k60_X12_takeRule : (.fieldLink RX12 60 "StyleRowsModel" "ruleRank" "[I" : Cond) ∈ wsX12_takeRule := List.mem_of_getElem? (i := 3) rfl
theorem k144_X12_takeRule : (.fieldLink RX12 144 "StyleRowsModel" "told" "J" : Cond) ∈ wsX12_takeRule := List.mem_of_getElem? (i := 4) rfl
theorem k54_X12_takeRule : (.fieldLink RX12 54 "StyleRowsModel" "ruleName" "[I" : Cond) ∈ wsX12_takeRule := List.mem_of_getElem? (i := 5) rfl
theorem k57_X12_takeRule : (.fieldLink RX12 57 "StyleRowsModel" "ruleNumber" "[I" : Cond) ∈ wsX12_takeRule := List.mem_of_getElem? (i := 6) rfl
theorem k193_X12_read : (.fieldLink RX12 193 "StyleRowsModel" "rules" "I" : Cond) ∈ wsX12_read := List.mem_of_getElem? (i := 1) rfl
theorem in_X12_X12_read : ∀ w ∈ u_ws RX12 TX12 35, w ∈ wsX12_read := mem_drop 57 rfl
theorem k135_X12_read : (.fieldLink RX12 135 "StyleRowsModel" "next" "I" : Cond) ∈ wsX12_read := List.mem_of_getElem? (i := 2) rfl
theorem k141_X12_read : (.fieldLink RX12 141 "StyleRowsModel" "first" "I" : Cond) ∈ wsX12_read := List.mem_of_getElem? (i := 4) rfl
theorem k130_X12_read : (.fieldLink RX12 130 "StyleRowsModel" "size" "I" : Cond) ∈ wsX12_read := List.mem_of_getElem? (i := 5) rfl
theorem k151_X12_read : (.fieldLink RX12 151 "StyleRowsModel" "sort" "I" : Cond) ∈ wsX12_read := List.mem_of_getElem? (i := 3) rfl
theorem k26_X8_clear : (.fieldLink RX8 26 "StyleRows$Rules" "howMany" "I" : Cond) ∈ wsX8_clear := List.mem_of_getElem? (i := 1) rfl
theorem in_X8_X8_clear : ∀ w ∈ u_ws RX8 TX8 4, w ∈ wsX8_clear := mem_drop 4 rfl
theorem k30_X8_clear : (.fieldLink RX8 30 "StyleRows$Rules" "withStaged" "I" : Cond) ∈ wsX8_clear := List.mem_of_getElem? (i := 2) rfl
theorem k18_X8_clear : (.fieldLink RX8 18 "StyleRows$Rules" "counting" "[I" : Cond) ∈ wsX8_clear := List.mem_of_getElem? (i := 3) rfl
theorem k30_X11_plain : (.fieldLink RX11 30 "StyleRows" "rules" "LStyleRows$Rules;" : Cond) ∈ wsX11_plain := List.mem_of_getElem? (i := 1) rfl
theorem in_X11_X11_plain : ∀ w ∈ u_ws RX11 TX11 8, w ∈ wsX11_plain := mem_drop 10 rfl
theorem k193_X12_plain : (.fieldLink RX12 193 "StyleRowsModel" "rules" "I" : Cond) ∈ wsX12_plain := List.mem_of_getElem? (i := 1) rfl
theorem in_X12_X12_plain : ∀ w ∈ u_ws RX12 TX12 35, w ∈ wsX12_plain := mem_drop 2 rfl
theorem k26_X8_has : (.fieldLink RX8 26 "StyleRows$Rules" "howMany" "I" : Cond) ∈ wsX8_has := List.mem_of_getElem? (i := 1) rfl
theorem in_X8_X8_has : ∀ w ∈ u_ws RX8 TX8 4, w ∈ wsX8_has := mem_drop 5 rfl
theorem kiniX11_X8_has : (.initialized RX11 : Cond) ∈ wsX8_has := List.mem_of_getElem? (i := 3) rfl
theorem kstX11_isWithin_X8_has : (.static yX11_isWithin : Cond) ∈ wsX8_has := List.mem_of_getElem? (i := 2) rfl
theorem k30_X11_rule : (.fieldLink RX11 30 "StyleRows" "rules" "LStyleRows$Rules;" : Cond) ∈ wsX11_rule := List.mem_of_getElem? (i := 1) rfl
theorem in_X11_X11_rule : ∀ w ∈ u_ws RX11 TX11 8, w ∈ wsX11_rule := mem_drop 12 rfl
theorem in_X8_X11_rule : ∀ w ∈ u_ws RX8 TX8 4, w ∈ wsX11_rule := mem_drop 20 rfl
theorem k193_X12_rule : (.fieldLink RX12 193 "StyleRowsModel" "rules" "I" : Cond) ∈ wsX12_rule := List.mem_of_getElem? (i := 1) rfl
theorem in_X12_X12_rule : ∀ w ∈ u_ws RX12 TX12 35, w ∈ wsX12_rule := mem_drop 10 rfl
theorem k60_X12_rule : (.fieldLink RX12 60 "StyleRowsModel" "ruleRank" "[I" : Cond) ∈ wsX12_rule := List.mem_of_getElem? (i := 5) rfl
theorem k57_X12_rule : (.fieldLink RX12 57 "StyleRowsModel" "ruleNumber" "[I" : Cond) ∈ wsX12_rule := List.mem_of_getElem? (i := 4) rfl
theorem k54_X12_rule : (.fieldLink RX12 54 "StyleRowsModel" "ruleName" "[I" : Cond) ∈ wsX12_rule := List.mem_of_getElem? (i := 3) rfl
theorem k51_X12_rule : (.fieldLink RX12 51 "StyleRowsModel" "ruleVoice" "[I" : Cond) ∈ wsX12_rule := List.mem_of_getElem? (i := 2) rfl
theorem kiniX11_X3_has : (.initialized RX11 : Cond) ∈ wsX3_has := List.mem_of_getElem? (i := 2) rfl
theorem kstX11_isWithin_X3_has : (.static yX11_isWithin : Cond) ∈ wsX3_has := List.mem_of_getElem? (i := 1) rfl
theorem k18_X8_countingFor : (.fieldLink RX8 18 "StyleRows$Rules" "counting" "[I" : Cond) ∈ wsX8_countingFor := List.mem_of_getElem? (i := 1) rfl
theorem in_X8_X8_countingFor : ∀ w ∈ u_ws RX8 TX8 4, w ∈ wsX8_countingFor := mem_drop 2 rfl
theorem k13_X8_numberFor : (.fieldLink RX8 13 "StyleRows$Rules" "rows" "[[I" : Cond) ∈ wsX8_numberFor := List.mem_of_getElem? (i := 1) rfl
theorem in_X8_X8_numberFor : ∀ w ∈ u_ws RX8 TX8 4, w ∈ wsX8_numberFor := mem_drop 8 rfl
theorem k30_X11_value : (.fieldLink RX11 30 "StyleRows" "rules" "LStyleRows$Rules;" : Cond) ∈ wsX11_value := List.mem_of_getElem? (i := 1) rfl
theorem in_X11_X11_value : ∀ w ∈ u_ws RX11 TX11 8, w ∈ wsX11_value := mem_drop 24 rfl
theorem k193_X12_counts : (.fieldLink RX12 193 "StyleRowsModel" "rules" "I" : Cond) ∈ wsX12_counts := List.mem_of_getElem? (i := 1) rfl
theorem in_X12_X12_counts : ∀ w ∈ u_ws RX12 TX12 35, w ∈ wsX12_counts := mem_drop 5 rfl
theorem k54_X12_counts : (.fieldLink RX12 54 "StyleRowsModel" "ruleName" "[I" : Cond) ∈ wsX12_counts := List.mem_of_getElem? (i := 2) rfl
theorem k60_X12_counts : (.fieldLink RX12 60 "StyleRowsModel" "ruleRank" "[I" : Cond) ∈ wsX12_counts := List.mem_of_getElem? (i := 4) rfl
theorem k51_X12_counts : (.fieldLink RX12 51 "StyleRowsModel" "ruleVoice" "[I" : Cond) ∈ wsX12_counts := List.mem_of_getElem? (i := 3) rfl
theorem k57_X12_number : (.fieldLink RX12 57 "StyleRowsModel" "ruleNumber" "[I" : Cond) ∈ wsX12_number := List.mem_of_getElem? (i := 1) rfl
theorem in_X12_X12_number : ∀ w ∈ u_ws RX12 TX12 35, w ∈ wsX12_number := mem_drop 14 rfl
theorem k76_X12_value : (.constantLong RX12 76 (3) : Cond) ∈ wsX12_value := List.mem_of_getElem? (i := 1) rfl
theorem k86_X12_value : (.constantLong RX12 86 (12) : Cond) ∈ wsX12_value := List.mem_of_getElem? (i := 2) rfl
theorem k30_X11_why : (.fieldLink RX11 30 "StyleRows" "rules" "LStyleRows$Rules;" : Cond) ∈ wsX11_why := List.mem_of_getElem? (i := 1) rfl
theorem in_X11_X11_why : ∀ w ∈ u_ws RX11 TX11 8, w ∈ wsX11_why := mem_drop 19 rfl
theorem k76_X12_why : (.constantLong RX12 76 (3) : Cond) ∈ wsX12_why := List.mem_of_getElem? (i := 1) rfl
theorem k86_X12_why : (.constantLong RX12 86 (12) : Cond) ∈ wsX12_why := List.mem_of_getElem? (i := 2) rfl
theorem k16_X1_clear : (.fieldLink RX1 16 "StyleRows$Events" "howMany" "I" : Cond) ∈ wsX1_clear := List.mem_of_getElem? (i := 1) rfl
theorem in_X1_X1_clear : ∀ w ∈ u_ws RX1 TX1 3, w ∈ wsX1_clear := mem_drop 3 rfl
theorem k20_X1_clear : (.fieldLink RX1 20 "StyleRows$Events" "tooMany" "Z" : Cond) ∈ wsX1_clear := List.mem_of_getElem? (i := 2) rfl
theorem k71_X6_takeNote : (.fieldLink RX6 71 "StyleRows$Performer" "note" "I" : Cond) ∈ wsX6_takeNote := List.mem_of_getElem? (i := 1) rfl
theorem in_X6_X6_takeNote : ∀ w ∈ u_ws RX6 TX6 8, w ∈ wsX6_takeNote := mem_drop 5 rfl
theorem in_X4_X6_takeNote : ∀ w ∈ u_ws RX4 TX4 6, w ∈ wsX6_takeNote := mem_drop 13 rfl
theorem k77_X6_takeNote : (.fieldLink RX6 77 "StyleRows$Performer" "voice" "I" : Cond) ∈ wsX6_takeNote := List.mem_of_getElem? (i := 2) rfl
theorem k83_X6_takeNote : (.fieldLink RX6 83 "StyleRows$Performer" "pitch" "I" : Cond) ∈ wsX6_takeNote := List.mem_of_getElem? (i := 3) rfl
theorem k89_X6_takeNote : (.fieldLink RX6 89 "StyleRows$Performer" "marks" "I" : Cond) ∈ wsX6_takeNote := List.mem_of_getElem? (i := 4) rfl
theorem k89_X6_isMarked : (.fieldLink RX6 89 "StyleRows$Performer" "marks" "I" : Cond) ∈ wsX6_isMarked := List.mem_of_getElem? (i := 1) rfl
theorem in_X6_X6_isMarked : ∀ w ∈ u_ws RX6 TX6 8, w ∈ wsX6_isMarked := mem_drop 2 rfl
theorem k77_X6_longOf : (.fieldLink RX6 77 "StyleRows$Performer" "voice" "I" : Cond) ∈ wsX6_longOf := List.mem_of_getElem? (i := 1) rfl
theorem in_X6_X6_longOf : ∀ w ∈ u_ws RX6 TX6 8, w ∈ wsX6_longOf := mem_drop 26 rfl
theorem k103_X6_longOf : (.methodLink RX6 103 Lib.Math.min.name : Cond) ∈ wsX6_longOf := List.mem_of_getElem? (i := 2) rfl
theorem kstmin_X6_longOf : (.static Lib.Math.min.name : Cond) ∈ wsX6_longOf := List.mem_of_getElem? (i := 3) rfl
theorem kini_X6_longOf : (.initialized "java/lang/Math" : Cond) ∈ wsX6_longOf := List.mem_of_getElem? (i := 4) rfl
theorem kcomin_X6_longOf : (.code Lib.Math.min.name Lib.Math.min.code 2 (some .int) : Cond) ∈ wsX6_longOf := List.mem_of_getElem? (i := 5) rfl
theorem k108_X6_longOf : (.methodLink RX6 108 Lib.Math.max.name : Cond) ∈ wsX6_longOf := List.mem_of_getElem? (i := 6) rfl
theorem kstmax_X6_longOf : (.static Lib.Math.max.name : Cond) ∈ wsX6_longOf := List.mem_of_getElem? (i := 7) rfl
theorem kcomax_X6_longOf : (.code Lib.Math.max.name Lib.Math.max.code 2 (some .int) : Cond) ∈ wsX6_longOf := List.mem_of_getElem? (i := 8) rfl
theorem k30_X9_beginsBar : (.fieldLink RX9 30 "StyleRows$Score" "beats" "I" : Cond) ∈ wsX9_beginsBar := List.mem_of_getElem? (i := 1) rfl
theorem in_X9_X9_beginsBar : ∀ w ∈ u_ws RX9 TX9 5, w ∈ wsX9_beginsBar := mem_drop 7 rfl
theorem k34_X9_beginsBar : (.fieldLink RX9 34 "StyleRows$Score" "unit" "I" : Cond) ∈ wsX9_beginsBar := List.mem_of_getElem? (i := 2) rfl
theorem k34_X9_beginsBeat : (.fieldLink RX9 34 "StyleRows$Score" "unit" "I" : Cond) ∈ wsX9_beginsBeat := List.mem_of_getElem? (i := 1) rfl
theorem in_X9_X9_beginsBeat : ∀ w ∈ u_ws RX9 TX9 5, w ∈ wsX9_beginsBeat := mem_drop 6 rfl
theorem in_X9_X6_loudOf : ∀ w ∈ u_ws RX9 TX9 5, w ∈ wsX6_loudOf := mem_drop 56 rfl
theorem k103_X6_loudOf : (.methodLink RX6 103 Lib.Math.min.name : Cond) ∈ wsX6_loudOf := List.mem_of_getElem? (i := 2) rfl
theorem kstmin_X6_loudOf : (.static Lib.Math.min.name : Cond) ∈ wsX6_loudOf := List.mem_of_getElem? (i := 3) rfl
theorem kini_X6_loudOf : (.initialized "java/lang/Math" : Cond) ∈ wsX6_loudOf := List.mem_of_getElem? (i := 4) rfl
theorem kcomin_X6_loudOf : (.code Lib.Math.min.name Lib.Math.min.code 2 (some .int) : Cond) ∈ wsX6_loudOf := List.mem_of_getElem? (i := 5) rfl
theorem k108_X6_loudOf : (.methodLink RX6 108 Lib.Math.max.name : Cond) ∈ wsX6_loudOf := List.mem_of_getElem? (i := 6) rfl
theorem kstmax_X6_loudOf : (.static Lib.Math.max.name : Cond) ∈ wsX6_loudOf := List.mem_of_getElem? (i := 7) rfl
theorem kcomax_X6_loudOf : (.code Lib.Math.max.name Lib.Math.max.code 2 (some .int) : Cond) ∈ wsX6_loudOf := List.mem_of_getElem? (i := 8) rfl
theorem k77_X6_loudOf : (.fieldLink RX6 77 "StyleRows$Performer" "voice" "I" : Cond) ∈ wsX6_loudOf := List.mem_of_getElem? (i := 1) rfl
theorem in_X6_X6_loudOf : ∀ w ∈ u_ws RX6 TX6 8, w ∈ wsX6_loudOf := mem_drop 61 rfl
theorem k71_X6_drawOf : (.fieldLink RX6 71 "StyleRows$Performer" "note" "I" : Cond) ∈ wsX6_drawOf := List.mem_of_getElem? (i := 1) rfl
theorem in_X6_X6_drawOf : ∀ w ∈ u_ws RX6 TX6 8, w ∈ wsX6_drawOf := mem_drop 13 rfl
theorem k131_X6_drawOf : (.constantLong RX6 131 (-7046029254386353131) : Cond) ∈ wsX6_drawOf := List.mem_of_getElem? (i := 2) rfl
theorem k133_X6_drawOf : (.constantLong RX6 133 (-4658895280553007687) : Cond) ∈ wsX6_drawOf := List.mem_of_getElem? (i := 3) rfl
theorem k135_X6_drawOf : (.constantLong RX6 135 (2) : Cond) ∈ wsX6_drawOf := List.mem_of_getElem? (i := 4) rfl
theorem k108_X6_drawOf : (.methodLink RX6 108 Lib.Math.max.name : Cond) ∈ wsX6_drawOf := List.mem_of_getElem? (i := 5) rfl
theorem kstmax_X6_drawOf : (.static Lib.Math.max.name : Cond) ∈ wsX6_drawOf := List.mem_of_getElem? (i := 6) rfl
theorem kini_X6_drawOf : (.initialized "java/lang/Math" : Cond) ∈ wsX6_drawOf := List.mem_of_getElem? (i := 7) rfl
theorem kcomax_X6_drawOf : (.code Lib.Math.max.name Lib.Math.max.code 2 (some .int) : Cond) ∈ wsX6_drawOf := List.mem_of_getElem? (i := 8) rfl
theorem k77_X6_onOf : (.fieldLink RX6 77 "StyleRows$Performer" "voice" "I" : Cond) ∈ wsX6_onOf := List.mem_of_getElem? (i := 1) rfl
theorem in_X6_X6_onOf : ∀ w ∈ u_ws RX6 TX6 8, w ∈ wsX6_onOf := mem_drop 30 rfl
theorem k108_X6_onOf : (.methodLink RX6 108 Lib.Math.max.name : Cond) ∈ wsX6_onOf := List.mem_of_getElem? (i := 2) rfl
theorem kstmax_X6_onOf : (.static Lib.Math.max.name : Cond) ∈ wsX6_onOf := List.mem_of_getElem? (i := 3) rfl
theorem kini_X6_onOf : (.initialized "java/lang/Math" : Cond) ∈ wsX6_onOf := List.mem_of_getElem? (i := 4) rfl
theorem kcomax_X6_onOf : (.code Lib.Math.max.name Lib.Math.max.code 2 (some .int) : Cond) ∈ wsX6_onOf := List.mem_of_getElem? (i := 5) rfl
theorem k16_X1_add : (.fieldLink RX1 16 "StyleRows$Events" "howMany" "I" : Cond) ∈ wsX1_add := List.mem_of_getElem? (i := 1) rfl
theorem in_X1_X1_add : ∀ w ∈ u_ws RX1 TX1 3, w ∈ wsX1_add := mem_drop 4 rfl
theorem k13_X1_add : (.fieldLink RX1 13 "StyleRows$Events" "rows" "[[I" : Cond) ∈ wsX1_add := List.mem_of_getElem? (i := 3) rfl
theorem k20_X1_add : (.fieldLink RX1 20 "StyleRows$Events" "tooMany" "Z" : Cond) ∈ wsX1_add := List.mem_of_getElem? (i := 2) rfl
theorem k10_X6_addPart : (.fieldLink RX6 10 "StyleRows$Performer" "parts" "LStyleRows$Events;" : Cond) ∈ wsX6_addPart := List.mem_of_getElem? (i := 1) rfl
theorem in_X6_X6_addPart : ∀ w ∈ u_ws RX6 TX6 8, w ∈ wsX6_addPart := mem_drop 14 rfl
theorem k64_X6_addPart : (.fieldLink RX6 64 "StyleRows$Performer" "on" "I" : Cond) ∈ wsX6_addPart := List.mem_of_getElem? (i := 2) rfl
theorem k71_X6_addPart : (.fieldLink RX6 71 "StyleRows$Performer" "note" "I" : Cond) ∈ wsX6_addPart := List.mem_of_getElem? (i := 3) rfl
theorem k77_X6_addPart : (.fieldLink RX6 77 "StyleRows$Performer" "voice" "I" : Cond) ∈ wsX6_addPart := List.mem_of_getElem? (i := 4) rfl
theorem k47_X6_addPart : (.fieldLink RX6 47 "StyleRows$Performer" "left" "I" : Cond) ∈ wsX6_addPart := List.mem_of_getElem? (i := 5) rfl
theorem k47_X6_addTurn : (.fieldLink RX6 47 "StyleRows$Performer" "left" "I" : Cond) ∈ wsX6_addTurn := List.mem_of_getElem? (i := 1) rfl
theorem in_X6_X6_addTurn : ∀ w ∈ u_ws RX6 TX6 8, w ∈ wsX6_addTurn := mem_drop 36 rfl
theorem k77_X6_addTurn : (.fieldLink RX6 77 "StyleRows$Performer" "voice" "I" : Cond) ∈ wsX6_addTurn := List.mem_of_getElem? (i := 2) rfl
theorem k103_X6_addTurn : (.methodLink RX6 103 Lib.Math.min.name : Cond) ∈ wsX6_addTurn := List.mem_of_getElem? (i := 3) rfl
theorem kstmin_X6_addTurn : (.static Lib.Math.min.name : Cond) ∈ wsX6_addTurn := List.mem_of_getElem? (i := 4) rfl
theorem kini_X6_addTurn : (.initialized "java/lang/Math" : Cond) ∈ wsX6_addTurn := List.mem_of_getElem? (i := 5) rfl
theorem kcomin_X6_addTurn : (.code Lib.Math.min.name Lib.Math.min.code 2 (some .int) : Cond) ∈ wsX6_addTurn := List.mem_of_getElem? (i := 6) rfl
theorem k83_X6_addTurn : (.fieldLink RX6 83 "StyleRows$Performer" "pitch" "I" : Cond) ∈ wsX6_addTurn := List.mem_of_getElem? (i := 7) rfl
theorem k57_X6_addTurn : (.fieldLink RX6 57 "StyleRows$Performer" "loud" "I" : Cond) ∈ wsX6_addTurn := List.mem_of_getElem? (i := 8) rfl
theorem k77_X6_addTrill : (.fieldLink RX6 77 "StyleRows$Performer" "voice" "I" : Cond) ∈ wsX6_addTrill := List.mem_of_getElem? (i := 1) rfl
theorem in_X6_X6_addTrill : ∀ w ∈ u_ws RX6 TX6 8, w ∈ wsX6_addTrill := mem_drop 39 rfl
theorem k47_X6_addTrill : (.fieldLink RX6 47 "StyleRows$Performer" "left" "I" : Cond) ∈ wsX6_addTrill := List.mem_of_getElem? (i := 2) rfl
theorem kiniX11_X6_addTrill : (.initialized RX11 : Cond) ∈ wsX6_addTrill := List.mem_of_getElem? (i := 17) rfl
theorem kstX11_quotient_X6_addTrill : (.static yX11_quotient : Cond) ∈ wsX6_addTrill := List.mem_of_getElem? (i := 16) rfl
theorem k83_X6_addTrill : (.fieldLink RX6 83 "StyleRows$Performer" "pitch" "I" : Cond) ∈ wsX6_addTrill := List.mem_of_getElem? (i := 3) rfl
theorem k57_X6_addTrill : (.fieldLink RX6 57 "StyleRows$Performer" "loud" "I" : Cond) ∈ wsX6_addTrill := List.mem_of_getElem? (i := 4) rfl
theorem k77_X6_addLean : (.fieldLink RX6 77 "StyleRows$Performer" "voice" "I" : Cond) ∈ wsX6_addLean := List.mem_of_getElem? (i := 1) rfl
theorem in_X6_X6_addLean : ∀ w ∈ u_ws RX6 TX6 8, w ∈ wsX6_addLean := mem_drop 39 rfl
theorem k47_X6_addLean : (.fieldLink RX6 47 "StyleRows$Performer" "left" "I" : Cond) ∈ wsX6_addLean := List.mem_of_getElem? (i := 2) rfl
theorem k103_X6_addLean : (.methodLink RX6 103 Lib.Math.min.name : Cond) ∈ wsX6_addLean := List.mem_of_getElem? (i := 3) rfl
theorem kstmin_X6_addLean : (.static Lib.Math.min.name : Cond) ∈ wsX6_addLean := List.mem_of_getElem? (i := 4) rfl
theorem kini_X6_addLean : (.initialized "java/lang/Math" : Cond) ∈ wsX6_addLean := List.mem_of_getElem? (i := 5) rfl
theorem kcomin_X6_addLean : (.code Lib.Math.min.name Lib.Math.min.code 2 (some .int) : Cond) ∈ wsX6_addLean := List.mem_of_getElem? (i := 6) rfl
theorem k83_X6_addLean : (.fieldLink RX6 83 "StyleRows$Performer" "pitch" "I" : Cond) ∈ wsX6_addLean := List.mem_of_getElem? (i := 7) rfl
theorem k57_X6_addLean : (.fieldLink RX6 57 "StyleRows$Performer" "loud" "I" : Cond) ∈ wsX6_addLean := List.mem_of_getElem? (i := 8) rfl
theorem k108_X6_addLean : (.methodLink RX6 108 Lib.Math.max.name : Cond) ∈ wsX6_addLean := List.mem_of_getElem? (i := 9) rfl
theorem kstmax_X6_addLean : (.static Lib.Math.max.name : Cond) ∈ wsX6_addLean := List.mem_of_getElem? (i := 10) rfl
theorem kcomax_X6_addLean : (.code Lib.Math.max.name Lib.Math.max.code 2 (some .int) : Cond) ∈ wsX6_addLean := List.mem_of_getElem? (i := 11) rfl
theorem k24_X4_isInChord : (.fieldLink RX4 24 "StyleRows$Notes" "marks" "[I" : Cond) ∈ wsX4_isInChord := List.mem_of_getElem? (i := 1) rfl
theorem in_X4_X4_isInChord : ∀ w ∈ u_ws RX4 TX4 6, w ∈ wsX4_isInChord := mem_drop 4 rfl
theorem k11_X4_isInChord : (.fieldLink RX4 11 "StyleRows$Notes" "voices" "[I" : Cond) ∈ wsX4_isInChord := List.mem_of_getElem? (i := 2) rfl
theorem k15_X4_isInChord : (.fieldLink RX4 15 "StyleRows$Notes" "starts" "[I" : Cond) ∈ wsX4_isInChord := List.mem_of_getElem? (i := 3) rfl
theorem k21_X4_isLower : (.fieldLink RX4 21 "StyleRows$Notes" "pitches" "[I" : Cond) ∈ wsX4_isLower := List.mem_of_getElem? (i := 1) rfl
theorem in_X4_X4_isLower : ∀ w ∈ u_ws RX4 TX4 6, w ∈ wsX4_isLower := mem_drop 2 rfl
theorem k27_X4_rolledAhead : (.fieldLink RX4 27 "StyleRows$Notes" "howMany" "I" : Cond) ∈ wsX4_rolledAhead := List.mem_of_getElem? (i := 1) rfl
theorem in_X4_X4_rolledAhead : ∀ w ∈ u_ws RX4 TX4 6, w ∈ wsX4_rolledAhead := mem_drop 15 rfl
theorem k71_X6_roll : (.fieldLink RX6 71 "StyleRows$Performer" "note" "I" : Cond) ∈ wsX6_roll := List.mem_of_getElem? (i := 1) rfl
theorem in_X6_X6_roll : ∀ w ∈ u_ws RX6 TX6 8, w ∈ wsX6_roll := mem_drop 38 rfl
theorem k77_X6_roll : (.fieldLink RX6 77 "StyleRows$Performer" "voice" "I" : Cond) ∈ wsX6_roll := List.mem_of_getElem? (i := 2) rfl
theorem k47_X6_roll : (.fieldLink RX6 47 "StyleRows$Performer" "left" "I" : Cond) ∈ wsX6_roll := List.mem_of_getElem? (i := 3) rfl
theorem k103_X6_roll : (.methodLink RX6 103 Lib.Math.min.name : Cond) ∈ wsX6_roll := List.mem_of_getElem? (i := 4) rfl
theorem kstmin_X6_roll : (.static Lib.Math.min.name : Cond) ∈ wsX6_roll := List.mem_of_getElem? (i := 5) rfl
theorem kini_X6_roll : (.initialized "java/lang/Math" : Cond) ∈ wsX6_roll := List.mem_of_getElem? (i := 6) rfl
theorem kcomin_X6_roll : (.code Lib.Math.min.name Lib.Math.min.code 2 (some .int) : Cond) ∈ wsX6_roll := List.mem_of_getElem? (i := 7) rfl
theorem k64_X6_roll : (.fieldLink RX6 64 "StyleRows$Performer" "on" "I" : Cond) ∈ wsX6_roll := List.mem_of_getElem? (i := 8) rfl
theorem k83_X6_addParts : (.fieldLink RX6 83 "StyleRows$Performer" "pitch" "I" : Cond) ∈ wsX6_addParts := List.mem_of_getElem? (i := 1) rfl
theorem in_X6_X6_addParts : ∀ w ∈ u_ws RX6 TX6 8, w ∈ wsX6_addParts := mem_drop 85 rfl
theorem k57_X6_addParts : (.fieldLink RX6 57 "StyleRows$Performer" "loud" "I" : Cond) ∈ wsX6_addParts := List.mem_of_getElem? (i := 2) rfl
theorem k47_X6_addParts : (.fieldLink RX6 47 "StyleRows$Performer" "left" "I" : Cond) ∈ wsX6_addParts := List.mem_of_getElem? (i := 3) rfl
theorem k10_X6_makeParts : (.fieldLink RX6 10 "StyleRows$Performer" "parts" "LStyleRows$Events;" : Cond) ∈ wsX6_makeParts := List.mem_of_getElem? (i := 1) rfl
theorem in_X6_X6_makeParts : ∀ w ∈ u_ws RX6 TX6 8, w ∈ wsX6_makeParts := mem_drop 142 rfl
theorem in_X9_X6_makeParts : ∀ w ∈ u_ws RX9 TX9 5, w ∈ wsX6_makeParts := mem_drop 150 rfl
theorem in_X4_X6_makeParts : ∀ w ∈ u_ws RX4 TX4 6, w ∈ wsX6_makeParts := mem_drop 155 rfl
theorem in_X1_X6_makeParts : ∀ w ∈ u_ws RX1 TX1 3, w ∈ wsX6_makeParts := mem_drop 161 rfl
theorem k47_X6_makeParts : (.fieldLink RX6 47 "StyleRows$Performer" "left" "I" : Cond) ∈ wsX6_makeParts := List.mem_of_getElem? (i := 2) rfl
theorem k57_X6_makeParts : (.fieldLink RX6 57 "StyleRows$Performer" "loud" "I" : Cond) ∈ wsX6_makeParts := List.mem_of_getElem? (i := 3) rfl
theorem k64_X6_makeParts : (.fieldLink RX6 64 "StyleRows$Performer" "on" "I" : Cond) ∈ wsX6_makeParts := List.mem_of_getElem? (i := 4) rfl
theorem k16_X1_bend : (.fieldLink RX1 16 "StyleRows$Events" "howMany" "I" : Cond) ∈ wsX1_bend := List.mem_of_getElem? (i := 1) rfl
theorem in_X1_X1_bend : ∀ w ∈ u_ws RX1 TX1 3, w ∈ wsX1_bend := mem_drop 26 rfl
theorem k13_X1_bend : (.fieldLink RX1 13 "StyleRows$Events" "rows" "[[I" : Cond) ∈ wsX1_bend := List.mem_of_getElem? (i := 2) rfl
theorem k34_X1_bend : (.methodLink RX1 34 Lib.Math.max.name : Cond) ∈ wsX1_bend := List.mem_of_getElem? (i := 3) rfl
theorem kstmax_X1_bend : (.static Lib.Math.max.name : Cond) ∈ wsX1_bend := List.mem_of_getElem? (i := 4) rfl
theorem kini_X1_bend : (.initialized "java/lang/Math" : Cond) ∈ wsX1_bend := List.mem_of_getElem? (i := 5) rfl
theorem kcomax_X1_bend : (.code Lib.Math.max.name Lib.Math.max.code 2 (some .int) : Cond) ∈ wsX1_bend := List.mem_of_getElem? (i := 6) rfl
theorem k17_X5_merge : (.fieldLink RX5 17 "StyleRows$Order" "spare" "[J" : Cond) ∈ wsX5_merge := List.mem_of_getElem? (i := 2) rfl
theorem in_X5_X5_merge : ∀ w ∈ u_ws RX5 TX5 2, w ∈ wsX5_merge := mem_drop 3 rfl
theorem k11_X5_merge : (.fieldLink RX5 11 "StyleRows$Order" "keys" "[J" : Cond) ∈ wsX5_merge := List.mem_of_getElem? (i := 1) rfl
theorem in_X1_X5_keyOf : ∀ w ∈ u_ws RX1 TX1 3, w ∈ wsX5_keyOf := mem_drop 4 rfl
theorem k42_X5_keyOf : (.constantLong RX5 42 (4) : Cond) ∈ wsX5_keyOf := List.mem_of_getElem? (i := 1) rfl
theorem k44_X5_keyOf : (.constantLong RX5 44 (128) : Cond) ∈ wsX5_keyOf := List.mem_of_getElem? (i := 2) rfl
theorem k46_X5_keyOf : (.constantLong RX5 46 (400) : Cond) ∈ wsX5_keyOf := List.mem_of_getElem? (i := 3) rfl
theorem in_X1_X5_sort : ∀ w ∈ u_ws RX1 TX1 3, w ∈ wsX5_sort := mem_drop 18 rfl
theorem k17_X5_sort : (.fieldLink RX5 17 "StyleRows$Order" "spare" "[J" : Cond) ∈ wsX5_sort := List.mem_of_getElem? (i := 6) rfl
theorem in_X5_X5_sort : ∀ w ∈ u_ws RX5 TX5 2, w ∈ wsX5_sort := mem_drop 21 rfl
theorem k11_X5_sort : (.fieldLink RX5 11 "StyleRows$Order" "keys" "[J" : Cond) ∈ wsX5_sort := List.mem_of_getElem? (i := 1) rfl
theorem k28_X5_sort : (.methodLink RX5 28 Lib.Math.min.name : Cond) ∈ wsX5_sort := List.mem_of_getElem? (i := 2) rfl
theorem kstmin_X5_sort : (.static Lib.Math.min.name : Cond) ∈ wsX5_sort := List.mem_of_getElem? (i := 3) rfl
theorem kini_X5_sort : (.initialized "java/lang/Math" : Cond) ∈ wsX5_sort := List.mem_of_getElem? (i := 4) rfl
theorem kcomin_X5_sort : (.code Lib.Math.min.name Lib.Math.min.code 2 (some .int) : Cond) ∈ wsX5_sort := List.mem_of_getElem? (i := 5) rfl
theorem k11_X5_partAt : (.fieldLink RX5 11 "StyleRows$Order" "keys" "[J" : Cond) ∈ wsX5_partAt := List.mem_of_getElem? (i := 1) rfl
theorem in_X5_X5_partAt : ∀ w ∈ u_ws RX5 TX5 2, w ∈ wsX5_partAt := mem_drop 9 rfl
theorem k16_X1_takeInOrder : (.fieldLink RX1 16 "StyleRows$Events" "howMany" "I" : Cond) ∈ wsX1_takeInOrder := List.mem_of_getElem? (i := 1) rfl
theorem in_X1_X1_takeInOrder : ∀ w ∈ u_ws RX1 TX1 3, w ∈ wsX1_takeInOrder := mem_drop 16 rfl
theorem k13_X1_takeInOrder : (.fieldLink RX1 13 "StyleRows$Events" "rows" "[[I" : Cond) ∈ wsX1_takeInOrder := List.mem_of_getElem? (i := 2) rfl
theorem k13_X1_endOf : (.fieldLink RX1 13 "StyleRows$Events" "rows" "[[I" : Cond) ∈ wsX1_endOf := List.mem_of_getElem? (i := 1) rfl
theorem in_X1_X1_endOf : ∀ w ∈ u_ws RX1 TX1 3, w ∈ wsX1_endOf := mem_drop 2 rfl
theorem k13_X1_repeats : (.fieldLink RX1 13 "StyleRows$Events" "rows" "[[I" : Cond) ∈ wsX1_repeats := List.mem_of_getElem? (i := 1) rfl
theorem in_X1_X1_repeats : ∀ w ∈ u_ws RX1 TX1 3, w ∈ wsX1_repeats := mem_drop 2 rfl
theorem k16_X1_endAtRepeat : (.fieldLink RX1 16 "StyleRows$Events" "howMany" "I" : Cond) ∈ wsX1_endAtRepeat := List.mem_of_getElem? (i := 1) rfl
theorem in_X1_X1_endAtRepeat : ∀ w ∈ u_ws RX1 TX1 3, w ∈ wsX1_endAtRepeat := mem_drop 12 rfl
theorem k13_X1_endAtRepeat : (.fieldLink RX1 13 "StyleRows$Events" "rows" "[[I" : Cond) ∈ wsX1_endAtRepeat := List.mem_of_getElem? (i := 2) rfl
theorem k16_X1_endAtRepeats : (.fieldLink RX1 16 "StyleRows$Events" "howMany" "I" : Cond) ∈ wsX1_endAtRepeats := List.mem_of_getElem? (i := 1) rfl
theorem in_X1_X1_endAtRepeats : ∀ w ∈ u_ws RX1 TX1 3, w ∈ wsX1_endAtRepeats := mem_drop 16 rfl
theorem k44_X11_perform : (.fieldLink RX11 44 "StyleRows" "performer" "LStyleRows$Performer;" : Cond) ∈ wsX11_perform := List.mem_of_getElem? (i := 1) rfl
theorem in_X11_X11_perform : ∀ w ∈ u_ws RX11 TX11 8, w ∈ wsX11_perform := mem_drop 215 rfl
theorem k16_X11_perform : (.fieldLink RX11 16 "StyleRows" "score" "LStyleRows$Score;" : Cond) ∈ wsX11_perform := List.mem_of_getElem? (i := 2) rfl
theorem k30_X11_perform : (.fieldLink RX11 30 "StyleRows" "rules" "LStyleRows$Rules;" : Cond) ∈ wsX11_perform := List.mem_of_getElem? (i := 3) rfl
theorem k7_X11_perform : (.fieldLink RX11 7 "StyleRows" "seed" "J" : Cond) ∈ wsX11_perform := List.mem_of_getElem? (i := 4) rfl
theorem in_X6_X11_perform : ∀ w ∈ u_ws RX6 TX6 8, w ∈ wsX11_perform := mem_drop 223 rfl
theorem in_X9_X11_perform : ∀ w ∈ u_ws RX9 TX9 5, w ∈ wsX11_perform := mem_drop 231 rfl
theorem k51_X11_perform : (.fieldLink RX11 51 "StyleRows" "order" "LStyleRows$Order;" : Cond) ∈ wsX11_perform := List.mem_of_getElem? (i := 5) rfl
theorem k58_X11_perform : (.fieldLink RX11 58 "StyleRows" "events" "LStyleRows$Events;" : Cond) ∈ wsX11_perform := List.mem_of_getElem? (i := 6) rfl
theorem in_X1_X11_perform : ∀ w ∈ u_ws RX1 TX1 3, w ∈ wsX11_perform := mem_drop 236 rfl
theorem k66_X12_cut : (.fieldLink RX12 66 "StyleRowsModel" "part" "[I" : Cond) ∈ wsX12_cut := List.mem_of_getElem? (i := 1) rfl
theorem in_X12_X12_cut : ∀ w ∈ u_ws RX12 TX12 35, w ∈ wsX12_cut := mem_drop 4 rfl
theorem k209_X12_cut : (.fieldLink RX12 209 "StyleRowsModel" "parts" "I" : Cond) ∈ wsX12_cut := List.mem_of_getElem? (i := 2) rfl
theorem k7_X12_cut : (.fieldLink RX12 7 "StyleRowsModel" "voice" "[I" : Cond) ∈ wsX12_cut := List.mem_of_getElem? (i := 3) rfl
theorem k66_X12_isAhead : (.fieldLink RX12 66 "StyleRowsModel" "part" "[I" : Cond) ∈ wsX12_isAhead := List.mem_of_getElem? (i := 1) rfl
theorem in_X12_X12_isAhead : ∀ w ∈ u_ws RX12 TX12 35, w ∈ wsX12_isAhead := mem_drop 3 rfl
theorem k7_X12_isAhead : (.fieldLink RX12 7 "StyleRowsModel" "voice" "[I" : Cond) ∈ wsX12_isAhead := List.mem_of_getElem? (i := 2) rfl
theorem k7_X12_onOf : (.fieldLink RX12 7 "StyleRowsModel" "voice" "[I" : Cond) ∈ wsX12_onOf := List.mem_of_getElem? (i := 1) rfl
theorem in_X12_X12_onOf : ∀ w ∈ u_ws RX12 TX12 35, w ∈ wsX12_onOf := mem_drop 24 rfl
theorem k72_X12_onOf : (.fieldLink RX12 72 "StyleRowsModel" "seed" "J" : Cond) ∈ wsX12_onOf := List.mem_of_getElem? (i := 3) rfl
theorem k224_X12_onOf : (.constantLong RX12 224 (-7046029254386353131) : Cond) ∈ wsX12_onOf := List.mem_of_getElem? (i := 4) rfl
theorem k226_X12_onOf : (.constantLong RX12 226 (-4658895280553007687) : Cond) ∈ wsX12_onOf := List.mem_of_getElem? (i := 5) rfl
theorem k13_X12_onOf : (.fieldLink RX12 13 "StyleRowsModel" "start" "[I" : Cond) ∈ wsX12_onOf := List.mem_of_getElem? (i := 2) rfl
theorem k228_X12_onOf : (.constantLong RX12 228 (2) : Cond) ∈ wsX12_onOf := List.mem_of_getElem? (i := 6) rfl
theorem k22_X12_has : (.fieldLink RX12 22 "StyleRowsModel" "marks" "[I" : Cond) ∈ wsX12_has := List.mem_of_getElem? (i := 1) rfl
theorem in_X12_X12_has : ∀ w ∈ u_ws RX12 TX12 35, w ∈ wsX12_has := mem_drop 2 rfl
theorem k7_X12_longOf : (.fieldLink RX12 7 "StyleRowsModel" "voice" "[I" : Cond) ∈ wsX12_longOf := List.mem_of_getElem? (i := 1) rfl
theorem in_X12_X12_longOf : ∀ w ∈ u_ws RX12 TX12 35, w ∈ wsX12_longOf := mem_drop 28 rfl
theorem k16_X12_longOf : (.fieldLink RX12 16 "StyleRowsModel" "length" "[I" : Cond) ∈ wsX12_longOf := List.mem_of_getElem? (i := 2) rfl
theorem k13_X12_loudOf : (.fieldLink RX12 13 "StyleRowsModel" "start" "[I" : Cond) ∈ wsX12_loudOf := List.mem_of_getElem? (i := 1) rfl
theorem in_X12_X12_loudOf : ∀ w ∈ u_ws RX12 TX12 35, w ∈ wsX12_loudOf := mem_drop 45 rfl
theorem k35_X12_loudOf : (.fieldLink RX12 35 "StyleRowsModel" "beats" "I" : Cond) ∈ wsX12_loudOf := List.mem_of_getElem? (i := 3) rfl
theorem k39_X12_loudOf : (.fieldLink RX12 39 "StyleRowsModel" "unit" "I" : Cond) ∈ wsX12_loudOf := List.mem_of_getElem? (i := 4) rfl
theorem k7_X12_loudOf : (.fieldLink RX12 7 "StyleRowsModel" "voice" "[I" : Cond) ∈ wsX12_loudOf := List.mem_of_getElem? (i := 2) rfl
theorem k209_X12_sounds : (.fieldLink RX12 209 "StyleRowsModel" "parts" "I" : Cond) ∈ wsX12_sounds := List.mem_of_getElem? (i := 1) rfl
theorem in_X12_X12_sounds : ∀ w ∈ u_ws RX12 TX12 35, w ∈ wsX12_sounds := mem_drop 19 rfl
theorem k212_X12_sounds : (.fieldLink RX12 212 "StyleRowsModel" "on" "I" : Cond) ∈ wsX12_sounds := List.mem_of_getElem? (i := 2) rfl
theorem k215_X12_sounds : (.fieldLink RX12 215 "StyleRowsModel" "left" "I" : Cond) ∈ wsX12_sounds := List.mem_of_getElem? (i := 5) rfl
theorem k66_X12_sounds : (.fieldLink RX12 66 "StyleRowsModel" "part" "[I" : Cond) ∈ wsX12_sounds := List.mem_of_getElem? (i := 3) rfl
theorem k19_X12_sounds : (.fieldLink RX12 19 "StyleRowsModel" "pitch" "[I" : Cond) ∈ wsX12_sounds := List.mem_of_getElem? (i := 4) rfl
theorem k7_X12_trill : (.fieldLink RX12 7 "StyleRowsModel" "voice" "[I" : Cond) ∈ wsX12_trill := List.mem_of_getElem? (i := 1) rfl
theorem in_X12_X12_trill : ∀ w ∈ u_ws RX12 TX12 35, w ∈ wsX12_trill := mem_drop 41 rfl
theorem k230_X12_trill : (.fieldLink RX12 230 "StyleRowsModel" "loud" "I" : Cond) ∈ wsX12_trill := List.mem_of_getElem? (i := 2) rfl
theorem k215_X12_trill : (.fieldLink RX12 215 "StyleRowsModel" "left" "I" : Cond) ∈ wsX12_trill := List.mem_of_getElem? (i := 3) rfl
theorem k92_X12_rolledAhead : (.fieldLink RX12 92 "StyleRowsModel" "notes" "I" : Cond) ∈ wsX12_rolledAhead := List.mem_of_getElem? (i := 1) rfl
theorem in_X12_X12_rolledAhead : ∀ w ∈ u_ws RX12 TX12 35, w ∈ wsX12_rolledAhead := mem_drop 11 rfl
theorem k19_X12_rolledAhead : (.fieldLink RX12 19 "StyleRowsModel" "pitch" "[I" : Cond) ∈ wsX12_rolledAhead := List.mem_of_getElem? (i := 4) rfl
theorem k7_X12_rolledAhead : (.fieldLink RX12 7 "StyleRowsModel" "voice" "[I" : Cond) ∈ wsX12_rolledAhead := List.mem_of_getElem? (i := 2) rfl
theorem k13_X12_rolledAhead : (.fieldLink RX12 13 "StyleRowsModel" "start" "[I" : Cond) ∈ wsX12_rolledAhead := List.mem_of_getElem? (i := 3) rfl
theorem k212_X12_performNote : (.fieldLink RX12 212 "StyleRowsModel" "on" "I" : Cond) ∈ wsX12_performNote := List.mem_of_getElem? (i := 1) rfl
theorem in_X12_X12_performNote : ∀ w ∈ u_ws RX12 TX12 35, w ∈ wsX12_performNote := mem_drop 90 rfl
theorem k215_X12_performNote : (.fieldLink RX12 215 "StyleRowsModel" "left" "I" : Cond) ∈ wsX12_performNote := List.mem_of_getElem? (i := 2) rfl
theorem k230_X12_performNote : (.fieldLink RX12 230 "StyleRowsModel" "loud" "I" : Cond) ∈ wsX12_performNote := List.mem_of_getElem? (i := 3) rfl
theorem k7_X12_performNote : (.fieldLink RX12 7 "StyleRowsModel" "voice" "[I" : Cond) ∈ wsX12_performNote := List.mem_of_getElem? (i := 4) rfl
theorem k209_X12_perform : (.fieldLink RX12 209 "StyleRowsModel" "parts" "I" : Cond) ∈ wsX12_perform := List.mem_of_getElem? (i := 1) rfl
theorem in_X12_X12_perform : ∀ w ∈ u_ws RX12 TX12 35, w ∈ wsX12_perform := mem_drop 104 rfl
theorem k92_X12_perform : (.fieldLink RX12 92 "StyleRowsModel" "notes" "I" : Cond) ∈ wsX12_perform := List.mem_of_getElem? (i := 2) rfl
theorem k257_X12_perform : (.fieldLink RX12 257 "StyleRowsModel" "events" "I" : Cond) ∈ wsX12_perform := List.mem_of_getElem? (i := 3) rfl
theorem k69_X12_perform : (.fieldLink RX12 69 "StyleRowsModel" "event" "[I" : Cond) ∈ wsX12_perform := List.mem_of_getElem? (i := 4) rfl
theorem k66_X12_perform : (.fieldLink RX12 66 "StyleRowsModel" "part" "[I" : Cond) ∈ wsX12_perform := List.mem_of_getElem? (i := 5) rfl
theorem k16_X1_has : (.fieldLink RX1 16 "StyleRows$Events" "howMany" "I" : Cond) ∈ wsX1_has := List.mem_of_getElem? (i := 1) rfl
theorem in_X1_X1_has : ∀ w ∈ u_ws RX1 TX1 3, w ∈ wsX1_has := mem_drop 5 rfl
theorem kiniX11_X1_has : (.initialized RX11 : Cond) ∈ wsX1_has := List.mem_of_getElem? (i := 3) rfl
theorem kstX11_isWithin_X1_has : (.static yX11_isWithin : Cond) ∈ wsX1_has := List.mem_of_getElem? (i := 2) rfl
theorem k58_X11_event : (.fieldLink RX11 58 "StyleRows" "events" "LStyleRows$Events;" : Cond) ∈ wsX11_event := List.mem_of_getElem? (i := 1) rfl
theorem in_X11_X11_event : ∀ w ∈ u_ws RX11 TX11 8, w ∈ wsX11_event := mem_drop 12 rfl
theorem in_X1_X11_event : ∀ w ∈ u_ws RX1 TX1 3, w ∈ wsX11_event := mem_drop 20 rfl
theorem k257_X12_event : (.fieldLink RX12 257 "StyleRowsModel" "events" "I" : Cond) ∈ wsX12_event := List.mem_of_getElem? (i := 1) rfl
theorem in_X12_X12_event : ∀ w ∈ u_ws RX12 TX12 35, w ∈ wsX12_event := mem_drop 9 rfl
theorem k266_X12_event : (.constantLong RX12 266 (6) : Cond) ∈ wsX12_event := List.mem_of_getElem? (i := 2) rfl
theorem k69_X12_event : (.fieldLink RX12 69 "StyleRowsModel" "event" "[I" : Cond) ∈ wsX12_event := List.mem_of_getElem? (i := 4) rfl
theorem k7_X12_event : (.fieldLink RX12 7 "StyleRowsModel" "voice" "[I" : Cond) ∈ wsX12_event := List.mem_of_getElem? (i := 3) rfl
theorem k16_X1_soundingAt : (.fieldLink RX1 16 "StyleRows$Events" "howMany" "I" : Cond) ∈ wsX1_soundingAt := List.mem_of_getElem? (i := 1) rfl
theorem in_X1_X1_soundingAt : ∀ w ∈ u_ws RX1 TX1 3, w ∈ wsX1_soundingAt := mem_drop 8 rfl
theorem k13_X1_soundingAt : (.fieldLink RX1 13 "StyleRows$Events" "rows" "[[I" : Cond) ∈ wsX1_soundingAt := List.mem_of_getElem? (i := 2) rfl
theorem k58_X11_sounding : (.fieldLink RX11 58 "StyleRows" "events" "LStyleRows$Events;" : Cond) ∈ wsX11_sounding := List.mem_of_getElem? (i := 1) rfl
theorem in_X11_X11_sounding : ∀ w ∈ u_ws RX11 TX11 8, w ∈ wsX11_sounding := mem_drop 13 rfl
theorem k257_X12_sounding : (.fieldLink RX12 257 "StyleRowsModel" "events" "I" : Cond) ∈ wsX12_sounding := List.mem_of_getElem? (i := 1) rfl
theorem in_X12_X12_sounding : ∀ w ∈ u_ws RX12 TX12 35, w ∈ wsX12_sounding := mem_drop 3 rfl
theorem k69_X12_sounding : (.fieldLink RX12 69 "StyleRowsModel" "event" "[I" : Cond) ∈ wsX12_sounding := List.mem_of_getElem? (i := 2) rfl
theorem k16_X1_howManyOf : (.fieldLink RX1 16 "StyleRows$Events" "howMany" "I" : Cond) ∈ wsX1_howManyOf := List.mem_of_getElem? (i := 1) rfl
theorem in_X1_X1_howManyOf : ∀ w ∈ u_ws RX1 TX1 3, w ∈ wsX1_howManyOf := mem_drop 3 rfl
theorem k13_X1_howManyOf : (.fieldLink RX1 13 "StyleRows$Events" "rows" "[[I" : Cond) ∈ wsX1_howManyOf := List.mem_of_getElem? (i := 2) rfl
theorem k16_X1_firstBeginOf : (.fieldLink RX1 16 "StyleRows$Events" "howMany" "I" : Cond) ∈ wsX1_firstBeginOf := List.mem_of_getElem? (i := 1) rfl
theorem in_X1_X1_firstBeginOf : ∀ w ∈ u_ws RX1 TX1 3, w ∈ wsX1_firstBeginOf := mem_drop 3 rfl
theorem k13_X1_firstBeginOf : (.fieldLink RX1 13 "StyleRows$Events" "rows" "[[I" : Cond) ∈ wsX1_firstBeginOf := List.mem_of_getElem? (i := 2) rfl
theorem k16_X1_lastEndOf : (.fieldLink RX1 16 "StyleRows$Events" "howMany" "I" : Cond) ∈ wsX1_lastEndOf := List.mem_of_getElem? (i := 1) rfl
theorem in_X1_X1_lastEndOf : ∀ w ∈ u_ws RX1 TX1 3, w ∈ wsX1_lastEndOf := mem_drop 8 rfl
theorem k13_X1_lastEndOf : (.fieldLink RX1 13 "StyleRows$Events" "rows" "[[I" : Cond) ∈ wsX1_lastEndOf := List.mem_of_getElem? (i := 2) rfl
theorem k16_X11_span : (.fieldLink RX11 16 "StyleRows" "score" "LStyleRows$Score;" : Cond) ∈ wsX11_span := List.mem_of_getElem? (i := 1) rfl
theorem in_X11_X11_span : ∀ w ∈ u_ws RX11 TX11 8, w ∈ wsX11_span := mem_drop 31 rfl
theorem in_X9_X11_span : ∀ w ∈ u_ws RX9 TX9 5, w ∈ wsX11_span := mem_drop 39 rfl
theorem k58_X11_span : (.fieldLink RX11 58 "StyleRows" "events" "LStyleRows$Events;" : Cond) ∈ wsX11_span := List.mem_of_getElem? (i := 2) rfl
theorem k228_X12_span : (.constantLong RX12 228 (2) : Cond) ∈ wsX12_span := List.mem_of_getElem? (i := 1) rfl
theorem k257_X12_span : (.fieldLink RX12 257 "StyleRowsModel" "events" "I" : Cond) ∈ wsX12_span := List.mem_of_getElem? (i := 2) rfl
theorem in_X12_X12_span : ∀ w ∈ u_ws RX12 TX12 35, w ∈ wsX12_span := mem_drop 13 rfl
theorem k69_X12_span : (.fieldLink RX12 69 "StyleRowsModel" "event" "[I" : Cond) ∈ wsX12_span := List.mem_of_getElem? (i := 3) rfl
theorem k16_X11_count : (.fieldLink RX11 16 "StyleRows" "score" "LStyleRows$Score;" : Cond) ∈ wsX11_count := List.mem_of_getElem? (i := 1) rfl
theorem in_X11_X11_count : ∀ w ∈ u_ws RX11 TX11 8, w ∈ wsX11_count := mem_drop 5 rfl
theorem in_X9_X11_count : ∀ w ∈ u_ws RX9 TX9 5, w ∈ wsX11_count := mem_drop 13 rfl
theorem in_X4_X11_count : ∀ w ∈ u_ws RX4 TX4 6, w ∈ wsX11_count := mem_drop 18 rfl
theorem in_X2_X11_count : ∀ w ∈ u_ws RX2 TX2 4, w ∈ wsX11_count := mem_drop 24 rfl
theorem in_X0_X11_count : ∀ w ∈ u_ws RX0 TX0 4, w ∈ wsX11_count := mem_drop 28 rfl
theorem k30_X11_count : (.fieldLink RX11 30 "StyleRows" "rules" "LStyleRows$Rules;" : Cond) ∈ wsX11_count := List.mem_of_getElem? (i := 2) rfl
theorem in_X8_X11_count : ∀ w ∈ u_ws RX8 TX8 4, w ∈ wsX11_count := mem_drop 32 rfl
theorem k58_X11_count : (.fieldLink RX11 58 "StyleRows" "events" "LStyleRows$Events;" : Cond) ∈ wsX11_count := List.mem_of_getElem? (i := 3) rfl
theorem in_X1_X11_count : ∀ w ∈ u_ws RX1 TX1 3, w ∈ wsX11_count := mem_drop 36 rfl
theorem k23_X11_count : (.fieldLink RX11 23 "StyleRows" "tape" "LStyleRows$Tape;" : Cond) ∈ wsX11_count := List.mem_of_getElem? (i := 4) rfl
theorem in_X10_X11_count : ∀ w ∈ u_ws RX10 TX10 2, w ∈ wsX11_count := mem_drop 39 rfl
theorem k130_X12_count : (.fieldLink RX12 130 "StyleRowsModel" "size" "I" : Cond) ∈ wsX12_count := List.mem_of_getElem? (i := 6) rfl
theorem in_X12_X12_count : ∀ w ∈ u_ws RX12 TX12 35, w ∈ wsX12_count := mem_drop 7 rfl
theorem k257_X12_count : (.fieldLink RX12 257 "StyleRowsModel" "events" "I" : Cond) ∈ wsX12_count := List.mem_of_getElem? (i := 5) rfl
theorem k193_X12_count : (.fieldLink RX12 193 "StyleRowsModel" "rules" "I" : Cond) ∈ wsX12_count := List.mem_of_getElem? (i := 4) rfl
theorem k108_X12_count : (.fieldLink RX12 108 "StyleRowsModel" "arcs" "I" : Cond) ∈ wsX12_count := List.mem_of_getElem? (i := 3) rfl
theorem k101_X12_count : (.fieldLink RX12 101 "StyleRowsModel" "levels" "I" : Cond) ∈ wsX12_count := List.mem_of_getElem? (i := 2) rfl
theorem k92_X12_count : (.fieldLink RX12 92 "StyleRowsModel" "notes" "I" : Cond) ∈ wsX12_count := List.mem_of_getElem? (i := 1) rfl

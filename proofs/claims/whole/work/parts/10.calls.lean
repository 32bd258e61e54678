/-! rooms, and what a call asks of a name -/
abbrev rX0_init : Room := { frames := 1, cells := 2, slots := 1040, locals := 20 }
theorem hdSX0_init : yX0_init.cls ≠ "java/lang/invoke/MethodHandle" ∧ yX0_init.cls ≠ "java/lang/invoke/VarHandle" ∧ (parseMethodDescriptor yX0_init.desc).map (fun d => d.parameters.length) = some 1 := by decide +kernel
theorem hdVX0_init : yX0_init.cls = RX0 ∧ yX0_init.cls ≠ "java/lang/invoke/MethodHandle" ∧ yX0_init.cls ≠ "java/lang/invoke/VarHandle" ∧ (parseMethodDescriptor yX0_init.desc).map (fun d => d.parameters.length) = some 1 := by decide +kernel
abbrev rX0_clear : Room := { frames := 0, cells := 0, slots := 0, locals := 0 }
theorem hdSX0_clear : yX0_clear.cls ≠ "java/lang/invoke/MethodHandle" ∧ yX0_clear.cls ≠ "java/lang/invoke/VarHandle" ∧ (parseMethodDescriptor yX0_clear.desc).map (fun d => d.parameters.length) = some 0 := by decide +kernel
theorem hdVX0_clear : yX0_clear.cls = RX0 ∧ yX0_clear.cls ≠ "java/lang/invoke/MethodHandle" ∧ yX0_clear.cls ≠ "java/lang/invoke/VarHandle" ∧ (parseMethodDescriptor yX0_clear.desc).map (fun d => d.parameters.length) = some 0 := by decide +kernel
abbrev rX0_copyFrom : Room := { frames := 4, cells := 0, slots := 0, locals := 87 }
theorem hdSX0_copyFrom : yX0_copyFrom.cls ≠ "java/lang/invoke/MethodHandle" ∧ yX0_copyFrom.cls ≠ "java/lang/invoke/VarHandle" ∧ (parseMethodDescriptor yX0_copyFrom.desc).map (fun d => d.parameters.length) = some 1 := by decide +kernel
theorem hdVX0_copyFrom : yX0_copyFrom.cls = RX0 ∧ yX0_copyFrom.cls ≠ "java/lang/invoke/MethodHandle" ∧ yX0_copyFrom.cls ≠ "java/lang/invoke/VarHandle" ∧ (parseMethodDescriptor yX0_copyFrom.desc).map (fun d => d.parameters.length) = some 1 := by decide +kernel
abbrev rX0_placeOfAge : Room := { frames := 1, cells := 0, slots := 0, locals := 22 }
theorem hdSX0_placeOfAge : yX0_placeOfAge.cls ≠ "java/lang/invoke/MethodHandle" ∧ yX0_placeOfAge.cls ≠ "java/lang/invoke/VarHandle" ∧ (parseMethodDescriptor yX0_placeOfAge.desc).map (fun d => d.parameters.length) = some 1 := by decide +kernel
theorem hdVX0_placeOfAge : yX0_placeOfAge.cls = RX0 ∧ yX0_placeOfAge.cls ≠ "java/lang/invoke/MethodHandle" ∧ yX0_placeOfAge.cls ≠ "java/lang/invoke/VarHandle" ∧ (parseMethodDescriptor yX0_placeOfAge.desc).map (fun d => d.parameters.length) = some 1 := by decide +kernel
abbrev rX0_placeOfIndex : Room := { frames := 1, cells := 0, slots := 0, locals := 22 }
theorem hdSX0_placeOfIndex : yX0_placeOfIndex.cls ≠ "java/lang/invoke/MethodHandle" ∧ yX0_placeOfIndex.cls ≠ "java/lang/invoke/VarHandle" ∧ (parseMethodDescriptor yX0_placeOfIndex.desc).map (fun d => d.parameters.length) = some 1 := by decide +kernel
theorem hdVX0_placeOfIndex : yX0_placeOfIndex.cls = RX0 ∧ yX0_placeOfIndex.cls ≠ "java/lang/invoke/MethodHandle" ∧ yX0_placeOfIndex.cls ≠ "java/lang/invoke/VarHandle" ∧ (parseMethodDescriptor yX0_placeOfIndex.desc).map (fun d => d.parameters.length) = some 1 := by decide +kernel
abbrev rX0_volumeOf : Room := { frames := 2, cells := 0, slots := 0, locals := 44 }
theorem hdSX0_volumeOf : yX0_volumeOf.cls ≠ "java/lang/invoke/MethodHandle" ∧ yX0_volumeOf.cls ≠ "java/lang/invoke/VarHandle" ∧ (parseMethodDescriptor yX0_volumeOf.desc).map (fun d => d.parameters.length) = some 1 := by decide +kernel
theorem hdVX0_volumeOf : yX0_volumeOf.cls = RX0 ∧ yX0_volumeOf.cls ≠ "java/lang/invoke/MethodHandle" ∧ yX0_volumeOf.cls ≠ "java/lang/invoke/VarHandle" ∧ (parseMethodDescriptor yX0_volumeOf.desc).map (fun d => d.parameters.length) = some 1 := by decide +kernel
abbrev rX0_densityOf : Room := { frames := 2, cells := 0, slots := 0, locals := 44 }
theorem hdSX0_densityOf : yX0_densityOf.cls ≠ "java/lang/invoke/MethodHandle" ∧ yX0_densityOf.cls ≠ "java/lang/invoke/VarHandle" ∧ (parseMethodDescriptor yX0_densityOf.desc).map (fun d => d.parameters.length) = some 1 := by decide +kernel
theorem hdVX0_densityOf : yX0_densityOf.cls = RX0 ∧ yX0_densityOf.cls ≠ "java/lang/invoke/MethodHandle" ∧ yX0_densityOf.cls ≠ "java/lang/invoke/VarHandle" ∧ (parseMethodDescriptor yX0_densityOf.desc).map (fun d => d.parameters.length) = some 1 := by decide +kernel
abbrev rX0_enter : Room := { frames := 3, cells := 0, slots := 0, locals := 64 }
theorem hdSX0_enter : yX0_enter.cls ≠ "java/lang/invoke/MethodHandle" ∧ yX0_enter.cls ≠ "java/lang/invoke/VarHandle" ∧ (parseMethodDescriptor yX0_enter.desc).map (fun d => d.parameters.length) = some 2 := by decide +kernel
theorem hdVX0_enter : yX0_enter.cls = RX0 ∧ yX0_enter.cls ≠ "java/lang/invoke/MethodHandle" ∧ yX0_enter.cls ≠ "java/lang/invoke/VarHandle" ∧ (parseMethodDescriptor yX0_enter.desc).map (fun d => d.parameters.length) = some 2 := by decide +kernel
abbrev rX0_joinsNewest : Room := { frames := 2, cells := 0, slots := 0, locals := 43 }
theorem hdSX0_joinsNewest : yX0_joinsNewest.cls ≠ "java/lang/invoke/MethodHandle" ∧ yX0_joinsNewest.cls ≠ "java/lang/invoke/VarHandle" ∧ (parseMethodDescriptor yX0_joinsNewest.desc).map (fun d => d.parameters.length) = some 1 := by decide +kernel
theorem hdVX0_joinsNewest : yX0_joinsNewest.cls = RX0 ∧ yX0_joinsNewest.cls ≠ "java/lang/invoke/MethodHandle" ∧ yX0_joinsNewest.cls ≠ "java/lang/invoke/VarHandle" ∧ (parseMethodDescriptor yX0_joinsNewest.desc).map (fun d => d.parameters.length) = some 1 := by decide +kernel
abbrev rX0_release : Room := { frames := 3, cells := 0, slots := 0, locals := 66 }
theorem hdSX0_release : yX0_release.cls ≠ "java/lang/invoke/MethodHandle" ∧ yX0_release.cls ≠ "java/lang/invoke/VarHandle" ∧ (parseMethodDescriptor yX0_release.desc).map (fun d => d.parameters.length) = some 1 := by decide +kernel
theorem hdVX0_release : yX0_release.cls = RX0 ∧ yX0_release.cls ≠ "java/lang/invoke/MethodHandle" ∧ yX0_release.cls ≠ "java/lang/invoke/VarHandle" ∧ (parseMethodDescriptor yX0_release.desc).map (fun d => d.parameters.length) = some 1 := by decide +kernel
abbrev rX0_releaseInto : Room := { frames := 4, cells := 0, slots := 0, locals := 87 }
theorem hdSX0_releaseInto : yX0_releaseInto.cls ≠ "java/lang/invoke/MethodHandle" ∧ yX0_releaseInto.cls ≠ "java/lang/invoke/VarHandle" ∧ (parseMethodDescriptor yX0_releaseInto.desc).map (fun d => d.parameters.length) = some 2 := by decide +kernel
theorem hdVX0_releaseInto : yX0_releaseInto.cls = RX0 ∧ yX0_releaseInto.cls ≠ "java/lang/invoke/MethodHandle" ∧ yX0_releaseInto.cls ≠ "java/lang/invoke/VarHandle" ∧ (parseMethodDescriptor yX0_releaseInto.desc).map (fun d => d.parameters.length) = some 2 := by decide +kernel
abbrev rX0_releaseOldest : Room := { frames := 2, cells := 0, slots := 0, locals := 43 }
theorem hdSX0_releaseOldest : yX0_releaseOldest.cls ≠ "java/lang/invoke/MethodHandle" ∧ yX0_releaseOldest.cls ≠ "java/lang/invoke/VarHandle" ∧ (parseMethodDescriptor yX0_releaseOldest.desc).map (fun d => d.parameters.length) = some 1 := by decide +kernel
theorem hdVX0_releaseOldest : yX0_releaseOldest.cls = RX0 ∧ yX0_releaseOldest.cls ≠ "java/lang/invoke/MethodHandle" ∧ yX0_releaseOldest.cls ≠ "java/lang/invoke/VarHandle" ∧ (parseMethodDescriptor yX0_releaseOldest.desc).map (fun d => d.parameters.length) = some 1 := by decide +kernel
abbrev rX0_loadAbove : Room := { frames := 2, cells := 0, slots := 0, locals := 44 }
theorem hdSX0_loadAbove : yX0_loadAbove.cls ≠ "java/lang/invoke/MethodHandle" ∧ yX0_loadAbove.cls ≠ "java/lang/invoke/VarHandle" ∧ (parseMethodDescriptor yX0_loadAbove.desc).map (fun d => d.parameters.length) = some 1 := by decide +kernel
theorem hdVX0_loadAbove : yX0_loadAbove.cls = RX0 ∧ yX0_loadAbove.cls ≠ "java/lang/invoke/MethodHandle" ∧ yX0_loadAbove.cls ≠ "java/lang/invoke/VarHandle" ∧ (parseMethodDescriptor yX0_loadAbove.desc).map (fun d => d.parameters.length) = some 1 := by decide +kernel
abbrev rX0_mixedLayers : Room := { frames := 2, cells := 0, slots := 0, locals := 44 }
theorem hdSX0_mixedLayers : yX0_mixedLayers.cls ≠ "java/lang/invoke/MethodHandle" ∧ yX0_mixedLayers.cls ≠ "java/lang/invoke/VarHandle" ∧ (parseMethodDescriptor yX0_mixedLayers.desc).map (fun d => d.parameters.length) = some 1 := by decide +kernel
theorem hdVX0_mixedLayers : yX0_mixedLayers.cls = RX0 ∧ yX0_mixedLayers.cls ≠ "java/lang/invoke/MethodHandle" ∧ yX0_mixedLayers.cls ≠ "java/lang/invoke/VarHandle" ∧ (parseMethodDescriptor yX0_mixedLayers.desc).map (fun d => d.parameters.length) = some 1 := by decide +kernel
abbrev rX1_init : Room := { frames := 5, cells := 6, slots := 2092, locals := 107 }
theorem hdSX1_init : yX1_init.cls ≠ "java/lang/invoke/MethodHandle" ∧ yX1_init.cls ≠ "java/lang/invoke/VarHandle" ∧ (parseMethodDescriptor yX1_init.desc).map (fun d => d.parameters.length) = some 0 := by decide +kernel
theorem hdVX1_init : yX1_init.cls = RX1 ∧ yX1_init.cls ≠ "java/lang/invoke/MethodHandle" ∧ yX1_init.cls ≠ "java/lang/invoke/VarHandle" ∧ (parseMethodDescriptor yX1_init.desc).map (fun d => d.parameters.length) = some 0 := by decide +kernel
abbrev rX1_startAnew : Room := { frames := 4, cells := 0, slots := 0, locals := 87 }
theorem hdSX1_startAnew : yX1_startAnew.cls ≠ "java/lang/invoke/MethodHandle" ∧ yX1_startAnew.cls ≠ "java/lang/invoke/VarHandle" ∧ (parseMethodDescriptor yX1_startAnew.desc).map (fun d => d.parameters.length) = some 0 := by decide +kernel
theorem hdVX1_startAnew : yX1_startAnew.cls = RX1 ∧ yX1_startAnew.cls ≠ "java/lang/invoke/MethodHandle" ∧ yX1_startAnew.cls ≠ "java/lang/invoke/VarHandle" ∧ (parseMethodDescriptor yX1_startAnew.desc).map (fun d => d.parameters.length) = some 0 := by decide +kernel
abbrev rX1_copyFrom : Room := { frames := 5, cells := 0, slots := 0, locals := 110 }
theorem hdSX1_copyFrom : yX1_copyFrom.cls ≠ "java/lang/invoke/MethodHandle" ∧ yX1_copyFrom.cls ≠ "java/lang/invoke/VarHandle" ∧ (parseMethodDescriptor yX1_copyFrom.desc).map (fun d => d.parameters.length) = some 1 := by decide +kernel
theorem hdVX1_copyFrom : yX1_copyFrom.cls = RX1 ∧ yX1_copyFrom.cls ≠ "java/lang/invoke/MethodHandle" ∧ yX1_copyFrom.cls ≠ "java/lang/invoke/VarHandle" ∧ (parseMethodDescriptor yX1_copyFrom.desc).map (fun d => d.parameters.length) = some 1 := by decide +kernel
abbrev rX1_pipeVolume : Room := { frames := 0, cells := 0, slots := 0, locals := 0 }
theorem hdSX1_pipeVolume : yX1_pipeVolume.cls ≠ "java/lang/invoke/MethodHandle" ∧ yX1_pipeVolume.cls ≠ "java/lang/invoke/VarHandle" ∧ (parseMethodDescriptor yX1_pipeVolume.desc).map (fun d => d.parameters.length) = some 0 := by decide +kernel
theorem hdVX1_pipeVolume : yX1_pipeVolume.cls = RX1 ∧ yX1_pipeVolume.cls ≠ "java/lang/invoke/MethodHandle" ∧ yX1_pipeVolume.cls ≠ "java/lang/invoke/VarHandle" ∧ (parseMethodDescriptor yX1_pipeVolume.desc).map (fun d => d.parameters.length) = some 0 := by decide +kernel
abbrev rX1_annulusVolume : Room := { frames := 0, cells := 0, slots := 0, locals := 0 }
theorem hdSX1_annulusVolume : yX1_annulusVolume.cls ≠ "java/lang/invoke/MethodHandle" ∧ yX1_annulusVolume.cls ≠ "java/lang/invoke/VarHandle" ∧ (parseMethodDescriptor yX1_annulusVolume.desc).map (fun d => d.parameters.length) = some 0 := by decide +kernel
theorem hdVX1_annulusVolume : yX1_annulusVolume.cls = RX1 ∧ yX1_annulusVolume.cls ≠ "java/lang/invoke/MethodHandle" ∧ yX1_annulusVolume.cls ≠ "java/lang/invoke/VarHandle" ∧ (parseMethodDescriptor yX1_annulusVolume.desc).map (fun d => d.parameters.length) = some 0 := by decide +kernel
abbrev rX1_column : Room := { frames := 0, cells := 0, slots := 0, locals := 0 }
theorem hdSX1_column : yX1_column.cls ≠ "java/lang/invoke/MethodHandle" ∧ yX1_column.cls ≠ "java/lang/invoke/VarHandle" ∧ (parseMethodDescriptor yX1_column.desc).map (fun d => d.parameters.length) = some 1 := by decide +kernel
theorem hdVX1_column : yX1_column.cls = RX1 ∧ yX1_column.cls ≠ "java/lang/invoke/MethodHandle" ∧ yX1_column.cls ≠ "java/lang/invoke/VarHandle" ∧ (parseMethodDescriptor yX1_column.desc).map (fun d => d.parameters.length) = some 1 := by decide +kernel
abbrev rX1_capacity : Room := { frames := 0, cells := 0, slots := 0, locals := 0 }
theorem hdSX1_capacity : yX1_capacity.cls ≠ "java/lang/invoke/MethodHandle" ∧ yX1_capacity.cls ≠ "java/lang/invoke/VarHandle" ∧ (parseMethodDescriptor yX1_capacity.desc).map (fun d => d.parameters.length) = some 1 := by decide +kernel
theorem hdVX1_capacity : yX1_capacity.cls = RX1 ∧ yX1_capacity.cls ≠ "java/lang/invoke/MethodHandle" ∧ yX1_capacity.cls ≠ "java/lang/invoke/VarHandle" ∧ (parseMethodDescriptor yX1_capacity.desc).map (fun d => d.parameters.length) = some 1 := by decide +kernel
abbrev rX1_canCirculate : Room := { frames := 1, cells := 0, slots := 0, locals := 20 }
theorem hdSX1_canCirculate : yX1_canCirculate.cls ≠ "java/lang/invoke/MethodHandle" ∧ yX1_canCirculate.cls ≠ "java/lang/invoke/VarHandle" ∧ (parseMethodDescriptor yX1_canCirculate.desc).map (fun d => d.parameters.length) = some 1 := by decide +kernel
theorem hdVX1_canCirculate : yX1_canCirculate.cls = RX1 ∧ yX1_canCirculate.cls ≠ "java/lang/invoke/MethodHandle" ∧ yX1_canCirculate.cls ≠ "java/lang/invoke/VarHandle" ∧ (parseMethodDescriptor yX1_canCirculate.desc).map (fun d => d.parameters.length) = some 1 := by decide +kernel
abbrev rX1_circulate : Room := { frames := 5, cells := 0, slots := 0, locals := 113 }
theorem hdSX1_circulate : yX1_circulate.cls ≠ "java/lang/invoke/MethodHandle" ∧ yX1_circulate.cls ≠ "java/lang/invoke/VarHandle" ∧ (parseMethodDescriptor yX1_circulate.desc).map (fun d => d.parameters.length) = some 2 := by decide +kernel
theorem hdVX1_circulate : yX1_circulate.cls = RX1 ∧ yX1_circulate.cls ≠ "java/lang/invoke/MethodHandle" ∧ yX1_circulate.cls ≠ "java/lang/invoke/VarHandle" ∧ (parseMethodDescriptor yX1_circulate.desc).map (fun d => d.parameters.length) = some 2 := by decide +kernel
abbrev rX1_circulateInSteps : Room := { frames := 6, cells := 0, slots := 0, locals := 135 }
theorem hdSX1_circulateInSteps : yX1_circulateInSteps.cls ≠ "java/lang/invoke/MethodHandle" ∧ yX1_circulateInSteps.cls ≠ "java/lang/invoke/VarHandle" ∧ (parseMethodDescriptor yX1_circulateInSteps.desc).map (fun d => d.parameters.length) = some 3 := by decide +kernel
theorem hdVX1_circulateInSteps : yX1_circulateInSteps.cls = RX1 ∧ yX1_circulateInSteps.cls ≠ "java/lang/invoke/MethodHandle" ∧ yX1_circulateInSteps.cls ≠ "java/lang/invoke/VarHandle" ∧ (parseMethodDescriptor yX1_circulateInSteps.desc).map (fun d => d.parameters.length) = some 3 := by decide +kernel
abbrev rX1_letIn : Room := { frames := 4, cells := 0, slots := 0, locals := 89 }
theorem hdSX1_letIn : yX1_letIn.cls ≠ "java/lang/invoke/MethodHandle" ∧ yX1_letIn.cls ≠ "java/lang/invoke/VarHandle" ∧ (parseMethodDescriptor yX1_letIn.desc).map (fun d => d.parameters.length) = some 2 := by decide +kernel
theorem hdVX1_letIn : yX1_letIn.cls = RX1 ∧ yX1_letIn.cls ≠ "java/lang/invoke/MethodHandle" ∧ yX1_letIn.cls ≠ "java/lang/invoke/VarHandle" ∧ (parseMethodDescriptor yX1_letIn.desc).map (fun d => d.parameters.length) = some 2 := by decide +kernel
abbrev rX1_checkShoe : Room := { frames := 5, cells := 0, slots := 0, locals := 114 }
theorem hdSX1_checkShoe : yX1_checkShoe.cls ≠ "java/lang/invoke/MethodHandle" ∧ yX1_checkShoe.cls ≠ "java/lang/invoke/VarHandle" ∧ (parseMethodDescriptor yX1_checkShoe.desc).map (fun d => d.parameters.length) = some 0 := by decide +kernel
theorem hdVX1_checkShoe : yX1_checkShoe.cls = RX1 ∧ yX1_checkShoe.cls ≠ "java/lang/invoke/MethodHandle" ∧ yX1_checkShoe.cls ≠ "java/lang/invoke/VarHandle" ∧ (parseMethodDescriptor yX1_checkShoe.desc).map (fun d => d.parameters.length) = some 0 := by decide +kernel
abbrev rX1_pressureOfWhole : Room := { frames := 2, cells := 0, slots := 0, locals := 43 }
theorem hdSX1_pressureOfWhole : yX1_pressureOfWhole.cls ≠ "java/lang/invoke/MethodHandle" ∧ yX1_pressureOfWhole.cls ≠ "java/lang/invoke/VarHandle" ∧ (parseMethodDescriptor yX1_pressureOfWhole.desc).map (fun d => d.parameters.length) = some 1 := by decide +kernel
theorem hdVX1_pressureOfWhole : yX1_pressureOfWhole.cls = RX1 ∧ yX1_pressureOfWhole.cls ≠ "java/lang/invoke/MethodHandle" ∧ yX1_pressureOfWhole.cls ≠ "java/lang/invoke/VarHandle" ∧ (parseMethodDescriptor yX1_pressureOfWhole.desc).map (fun d => d.parameters.length) = some 1 := by decide +kernel
abbrev rX1_pressureOfPart : Room := { frames := 3, cells := 0, slots := 0, locals := 71 }
theorem hdSX1_pressureOfPart : yX1_pressureOfPart.cls ≠ "java/lang/invoke/MethodHandle" ∧ yX1_pressureOfPart.cls ≠ "java/lang/invoke/VarHandle" ∧ (parseMethodDescriptor yX1_pressureOfPart.desc).map (fun d => d.parameters.length) = some 2 := by decide +kernel
theorem hdVX1_pressureOfPart : yX1_pressureOfPart.cls = RX1 ∧ yX1_pressureOfPart.cls ≠ "java/lang/invoke/MethodHandle" ∧ yX1_pressureOfPart.cls ≠ "java/lang/invoke/VarHandle" ∧ (parseMethodDescriptor yX1_pressureOfPart.desc).map (fun d => d.parameters.length) = some 2 := by decide +kernel
abbrev rX1_pressureOf : Room := { frames := 1, cells := 0, slots := 0, locals := 21 }
theorem hdSX1_pressureOf : yX1_pressureOf.cls ≠ "java/lang/invoke/MethodHandle" ∧ yX1_pressureOf.cls ≠ "java/lang/invoke/VarHandle" ∧ (parseMethodDescriptor yX1_pressureOf.desc).map (fun d => d.parameters.length) = some 2 := by decide +kernel
theorem hdVX1_pressureOf : yX1_pressureOf.cls = RX1 ∧ yX1_pressureOf.cls ≠ "java/lang/invoke/MethodHandle" ∧ yX1_pressureOf.cls ≠ "java/lang/invoke/VarHandle" ∧ (parseMethodDescriptor yX1_pressureOf.desc).map (fun d => d.parameters.length) = some 2 := by decide +kernel
abbrev rX1_pressureAtPipe : Room := { frames := 3, cells := 0, slots := 0, locals := 64 }
theorem hdSX1_pressureAtPipe : yX1_pressureAtPipe.cls ≠ "java/lang/invoke/MethodHandle" ∧ yX1_pressureAtPipe.cls ≠ "java/lang/invoke/VarHandle" ∧ (parseMethodDescriptor yX1_pressureAtPipe.desc).map (fun d => d.parameters.length) = some 0 := by decide +kernel
theorem hdVX1_pressureAtPipe : yX1_pressureAtPipe.cls = RX1 ∧ yX1_pressureAtPipe.cls ≠ "java/lang/invoke/MethodHandle" ∧ yX1_pressureAtPipe.cls ≠ "java/lang/invoke/VarHandle" ∧ (parseMethodDescriptor yX1_pressureAtPipe.desc).map (fun d => d.parameters.length) = some 0 := by decide +kernel
abbrev rX1_pressureAtCasing : Room := { frames := 3, cells := 0, slots := 0, locals := 64 }
theorem hdSX1_pressureAtCasing : yX1_pressureAtCasing.cls ≠ "java/lang/invoke/MethodHandle" ∧ yX1_pressureAtCasing.cls ≠ "java/lang/invoke/VarHandle" ∧ (parseMethodDescriptor yX1_pressureAtCasing.desc).map (fun d => d.parameters.length) = some 0 := by decide +kernel
theorem hdVX1_pressureAtCasing : yX1_pressureAtCasing.cls = RX1 ∧ yX1_pressureAtCasing.cls ≠ "java/lang/invoke/MethodHandle" ∧ yX1_pressureAtCasing.cls ≠ "java/lang/invoke/VarHandle" ∧ (parseMethodDescriptor yX1_pressureAtCasing.desc).map (fun d => d.parameters.length) = some 0 := by decide +kernel
abbrev rX1_pressureAtStandpipe : Room := { frames := 4, cells := 0, slots := 0, locals := 84 }
theorem hdSX1_pressureAtStandpipe : yX1_pressureAtStandpipe.cls ≠ "java/lang/invoke/MethodHandle" ∧ yX1_pressureAtStandpipe.cls ≠ "java/lang/invoke/VarHandle" ∧ (parseMethodDescriptor yX1_pressureAtStandpipe.desc).map (fun d => d.parameters.length) = some 0 := by decide +kernel
theorem hdVX1_pressureAtStandpipe : yX1_pressureAtStandpipe.cls = RX1 ∧ yX1_pressureAtStandpipe.cls ≠ "java/lang/invoke/MethodHandle" ∧ yX1_pressureAtStandpipe.cls ≠ "java/lang/invoke/VarHandle" ∧ (parseMethodDescriptor yX1_pressureAtStandpipe.desc).map (fun d => d.parameters.length) = some 0 := by decide +kernel
abbrev rX1_pressureAtShoe : Room := { frames := 4, cells := 0, slots := 0, locals := 94 }
theorem hdSX1_pressureAtShoe : yX1_pressureAtShoe.cls ≠ "java/lang/invoke/MethodHandle" ∧ yX1_pressureAtShoe.cls ≠ "java/lang/invoke/VarHandle" ∧ (parseMethodDescriptor yX1_pressureAtShoe.desc).map (fun d => d.parameters.length) = some 0 := by decide +kernel
theorem hdVX1_pressureAtShoe : yX1_pressureAtShoe.cls = RX1 ∧ yX1_pressureAtShoe.cls ≠ "java/lang/invoke/MethodHandle" ∧ yX1_pressureAtShoe.cls ≠ "java/lang/invoke/VarHandle" ∧ (parseMethodDescriptor yX1_pressureAtShoe.desc).map (fun d => d.parameters.length) = some 0 := by decide +kernel
abbrev rX1_densityToKill : Room := { frames := 1, cells := 0, slots := 0, locals := 23 }
theorem hdSX1_densityToKill : yX1_densityToKill.cls ≠ "java/lang/invoke/MethodHandle" ∧ yX1_densityToKill.cls ≠ "java/lang/invoke/VarHandle" ∧ (parseMethodDescriptor yX1_densityToKill.desc).map (fun d => d.parameters.length) = some 0 := by decide +kernel
theorem hdVX1_densityToKill : yX1_densityToKill.cls = RX1 ∧ yX1_densityToKill.cls ≠ "java/lang/invoke/MethodHandle" ∧ yX1_densityToKill.cls ≠ "java/lang/invoke/VarHandle" ∧ (parseMethodDescriptor yX1_densityToKill.desc).map (fun d => d.parameters.length) = some 0 := by decide +kernel
abbrev rX1_mixedSettings : Room := { frames := 1, cells := 0, slots := 0, locals := 23 }
theorem hdSX1_mixedSettings : yX1_mixedSettings.cls ≠ "java/lang/invoke/MethodHandle" ∧ yX1_mixedSettings.cls ≠ "java/lang/invoke/VarHandle" ∧ (parseMethodDescriptor yX1_mixedSettings.desc).map (fun d => d.parameters.length) = some 1 := by decide +kernel
theorem hdVX1_mixedSettings : yX1_mixedSettings.cls = RX1 ∧ yX1_mixedSettings.cls ≠ "java/lang/invoke/MethodHandle" ∧ yX1_mixedSettings.cls ≠ "java/lang/invoke/VarHandle" ∧ (parseMethodDescriptor yX1_mixedSettings.desc).map (fun d => d.parameters.length) = some 1 := by decide +kernel
abbrev rX1_mixedReadings : Room := { frames := 5, cells := 0, slots := 0, locals := 114 }
theorem hdSX1_mixedReadings : yX1_mixedReadings.cls ≠ "java/lang/invoke/MethodHandle" ∧ yX1_mixedReadings.cls ≠ "java/lang/invoke/VarHandle" ∧ (parseMethodDescriptor yX1_mixedReadings.desc).map (fun d => d.parameters.length) = some 1 := by decide +kernel
theorem hdVX1_mixedReadings : yX1_mixedReadings.cls = RX1 ∧ yX1_mixedReadings.cls ≠ "java/lang/invoke/MethodHandle" ∧ yX1_mixedReadings.cls ≠ "java/lang/invoke/VarHandle" ∧ (parseMethodDescriptor yX1_mixedReadings.desc).map (fun d => d.parameters.length) = some 1 := by decide +kernel
abbrev rX2_init : Room := { frames := 6, cells := 44, slots := 12638, locals := 127 }
theorem hdSX2_init : yX2_init.cls ≠ "java/lang/invoke/MethodHandle" ∧ yX2_init.cls ≠ "java/lang/invoke/VarHandle" ∧ (parseMethodDescriptor yX2_init.desc).map (fun d => d.parameters.length) = some 0 := by decide +kernel
theorem hdVX2_init : yX2_init.cls = RX2 ∧ yX2_init.cls ≠ "java/lang/invoke/MethodHandle" ∧ yX2_init.cls ≠ "java/lang/invoke/VarHandle" ∧ (parseMethodDescriptor yX2_init.desc).map (fun d => d.parameters.length) = some 0 := by decide +kernel
abbrev rX2_setGeometry : Room := { frames := 7, cells := 0, slots := 0, locals := 151 }
theorem hdSX2_setGeometry : yX2_setGeometry.cls ≠ "java/lang/invoke/MethodHandle" ∧ yX2_setGeometry.cls ≠ "java/lang/invoke/VarHandle" ∧ (parseMethodDescriptor yX2_setGeometry.desc).map (fun d => d.parameters.length) = some 4 := by decide +kernel
theorem hdVX2_setGeometry : yX2_setGeometry.cls = RX2 ∧ yX2_setGeometry.cls ≠ "java/lang/invoke/MethodHandle" ∧ yX2_setGeometry.cls ≠ "java/lang/invoke/VarHandle" ∧ (parseMethodDescriptor yX2_setGeometry.desc).map (fun d => d.parameters.length) = some 4 := by decide +kernel
abbrev rX2_setMud : Room := { frames := 7, cells := 0, slots := 0, locals := 151 }
theorem hdSX2_setMud : yX2_setMud.cls ≠ "java/lang/invoke/MethodHandle" ∧ yX2_setMud.cls ≠ "java/lang/invoke/VarHandle" ∧ (parseMethodDescriptor yX2_setMud.desc).map (fun d => d.parameters.length) = some 1 := by decide +kernel
theorem hdVX2_setMud : yX2_setMud.cls = RX2 ∧ yX2_setMud.cls ≠ "java/lang/invoke/MethodHandle" ∧ yX2_setMud.cls ≠ "java/lang/invoke/VarHandle" ∧ (parseMethodDescriptor yX2_setMud.desc).map (fun d => d.parameters.length) = some 1 := by decide +kernel
abbrev rX2_setFormation : Room := { frames := 7, cells := 0, slots := 0, locals := 151 }
theorem hdSX2_setFormation : yX2_setFormation.cls ≠ "java/lang/invoke/MethodHandle" ∧ yX2_setFormation.cls ≠ "java/lang/invoke/VarHandle" ∧ (parseMethodDescriptor yX2_setFormation.desc).map (fun d => d.parameters.length) = some 1 := by decide +kernel
theorem hdVX2_setFormation : yX2_setFormation.cls = RX2 ∧ yX2_setFormation.cls ≠ "java/lang/invoke/MethodHandle" ∧ yX2_setFormation.cls ≠ "java/lang/invoke/VarHandle" ∧ (parseMethodDescriptor yX2_setFormation.desc).map (fun d => d.parameters.length) = some 1 := by decide +kernel
abbrev rX2_setSlowPump : Room := { frames := 7, cells := 0, slots := 0, locals := 151 }
theorem hdSX2_setSlowPump : yX2_setSlowPump.cls ≠ "java/lang/invoke/MethodHandle" ∧ yX2_setSlowPump.cls ≠ "java/lang/invoke/VarHandle" ∧ (parseMethodDescriptor yX2_setSlowPump.desc).map (fun d => d.parameters.length) = some 1 := by decide +kernel
theorem hdVX2_setSlowPump : yX2_setSlowPump.cls = RX2 ∧ yX2_setSlowPump.cls ≠ "java/lang/invoke/MethodHandle" ∧ yX2_setSlowPump.cls ≠ "java/lang/invoke/VarHandle" ∧ (parseMethodDescriptor yX2_setSlowPump.desc).map (fun d => d.parameters.length) = some 1 := by decide +kernel
abbrev rX2_setFracture : Room := { frames := 7, cells := 0, slots := 0, locals := 151 }
theorem hdSX2_setFracture : yX2_setFracture.cls ≠ "java/lang/invoke/MethodHandle" ∧ yX2_setFracture.cls ≠ "java/lang/invoke/VarHandle" ∧ (parseMethodDescriptor yX2_setFracture.desc).map (fun d => d.parameters.length) = some 1 := by decide +kernel
theorem hdVX2_setFracture : yX2_setFracture.cls = RX2 ∧ yX2_setFracture.cls ≠ "java/lang/invoke/MethodHandle" ∧ yX2_setFracture.cls ≠ "java/lang/invoke/VarHandle" ∧ (parseMethodDescriptor yX2_setFracture.desc).map (fun d => d.parameters.length) = some 1 := by decide +kernel
abbrev rX2_pump : Room := { frames := 7, cells := 0, slots := 0, locals := 151 }
theorem hdSX2_pump : yX2_pump.cls ≠ "java/lang/invoke/MethodHandle" ∧ yX2_pump.cls ≠ "java/lang/invoke/VarHandle" ∧ (parseMethodDescriptor yX2_pump.desc).map (fun d => d.parameters.length) = some 1 := by decide +kernel
theorem hdVX2_pump : yX2_pump.cls = RX2 ∧ yX2_pump.cls ≠ "java/lang/invoke/MethodHandle" ∧ yX2_pump.cls ≠ "java/lang/invoke/VarHandle" ∧ (parseMethodDescriptor yX2_pump.desc).map (fun d => d.parameters.length) = some 1 := by decide +kernel
abbrev rX2_influx : Room := { frames := 7, cells := 0, slots := 0, locals := 151 }
theorem hdSX2_influx : yX2_influx.cls ≠ "java/lang/invoke/MethodHandle" ∧ yX2_influx.cls ≠ "java/lang/invoke/VarHandle" ∧ (parseMethodDescriptor yX2_influx.desc).map (fun d => d.parameters.length) = some 2 := by decide +kernel
theorem hdVX2_influx : yX2_influx.cls = RX2 ∧ yX2_influx.cls ≠ "java/lang/invoke/MethodHandle" ∧ yX2_influx.cls ≠ "java/lang/invoke/VarHandle" ∧ (parseMethodDescriptor yX2_influx.desc).map (fun d => d.parameters.length) = some 2 := by decide +kernel
abbrev rX2_hydrostatic : Room := { frames := 3, cells := 0, slots := 0, locals := 64 }
theorem hdSX2_hydrostatic : yX2_hydrostatic.cls ≠ "java/lang/invoke/MethodHandle" ∧ yX2_hydrostatic.cls ≠ "java/lang/invoke/VarHandle" ∧ (parseMethodDescriptor yX2_hydrostatic.desc).map (fun d => d.parameters.length) = some 1 := by decide +kernel
theorem hdVX2_hydrostatic : yX2_hydrostatic.cls = RX2 ∧ yX2_hydrostatic.cls ≠ "java/lang/invoke/MethodHandle" ∧ yX2_hydrostatic.cls ≠ "java/lang/invoke/VarHandle" ∧ (parseMethodDescriptor yX2_hydrostatic.desc).map (fun d => d.parameters.length) = some 1 := by decide +kernel
abbrev rX2_hydrostaticAbove : Room := { frames := 4, cells := 0, slots := 0, locals := 94 }
theorem hdSX2_hydrostaticAbove : yX2_hydrostaticAbove.cls ≠ "java/lang/invoke/MethodHandle" ∧ yX2_hydrostaticAbove.cls ≠ "java/lang/invoke/VarHandle" ∧ (parseMethodDescriptor yX2_hydrostaticAbove.desc).map (fun d => d.parameters.length) = some 2 := by decide +kernel
theorem hdVX2_hydrostaticAbove : yX2_hydrostaticAbove.cls = RX2 ∧ yX2_hydrostaticAbove.cls ≠ "java/lang/invoke/MethodHandle" ∧ yX2_hydrostaticAbove.cls ≠ "java/lang/invoke/VarHandle" ∧ (parseMethodDescriptor yX2_hydrostaticAbove.desc).map (fun d => d.parameters.length) = some 2 := by decide +kernel
abbrev rX2_drillPipePressure : Room := { frames := 4, cells := 0, slots := 0, locals := 84 }
theorem hdSX2_drillPipePressure : yX2_drillPipePressure.cls ≠ "java/lang/invoke/MethodHandle" ∧ yX2_drillPipePressure.cls ≠ "java/lang/invoke/VarHandle" ∧ (parseMethodDescriptor yX2_drillPipePressure.desc).map (fun d => d.parameters.length) = some 0 := by decide +kernel
theorem hdVX2_drillPipePressure : yX2_drillPipePressure.cls = RX2 ∧ yX2_drillPipePressure.cls ≠ "java/lang/invoke/MethodHandle" ∧ yX2_drillPipePressure.cls ≠ "java/lang/invoke/VarHandle" ∧ (parseMethodDescriptor yX2_drillPipePressure.desc).map (fun d => d.parameters.length) = some 0 := by decide +kernel
abbrev rX2_casingPressure : Room := { frames := 4, cells := 0, slots := 0, locals := 84 }
theorem hdSX2_casingPressure : yX2_casingPressure.cls ≠ "java/lang/invoke/MethodHandle" ∧ yX2_casingPressure.cls ≠ "java/lang/invoke/VarHandle" ∧ (parseMethodDescriptor yX2_casingPressure.desc).map (fun d => d.parameters.length) = some 0 := by decide +kernel
theorem hdVX2_casingPressure : yX2_casingPressure.cls = RX2 ∧ yX2_casingPressure.cls ≠ "java/lang/invoke/MethodHandle" ∧ yX2_casingPressure.cls ≠ "java/lang/invoke/VarHandle" ∧ (parseMethodDescriptor yX2_casingPressure.desc).map (fun d => d.parameters.length) = some 0 := by decide +kernel
abbrev rX2_standpipePressure : Room := { frames := 5, cells := 0, slots := 0, locals := 104 }
theorem hdSX2_standpipePressure : yX2_standpipePressure.cls ≠ "java/lang/invoke/MethodHandle" ∧ yX2_standpipePressure.cls ≠ "java/lang/invoke/VarHandle" ∧ (parseMethodDescriptor yX2_standpipePressure.desc).map (fun d => d.parameters.length) = some 0 := by decide +kernel
theorem hdVX2_standpipePressure : yX2_standpipePressure.cls = RX2 ∧ yX2_standpipePressure.cls ≠ "java/lang/invoke/MethodHandle" ∧ yX2_standpipePressure.cls ≠ "java/lang/invoke/VarHandle" ∧ (parseMethodDescriptor yX2_standpipePressure.desc).map (fun d => d.parameters.length) = some 0 := by decide +kernel
abbrev rX2_shoePressure : Room := { frames := 5, cells := 0, slots := 0, locals := 114 }
theorem hdSX2_shoePressure : yX2_shoePressure.cls ≠ "java/lang/invoke/MethodHandle" ∧ yX2_shoePressure.cls ≠ "java/lang/invoke/VarHandle" ∧ (parseMethodDescriptor yX2_shoePressure.desc).map (fun d => d.parameters.length) = some 0 := by decide +kernel
theorem hdVX2_shoePressure : yX2_shoePressure.cls = RX2 ∧ yX2_shoePressure.cls ≠ "java/lang/invoke/MethodHandle" ∧ yX2_shoePressure.cls ≠ "java/lang/invoke/VarHandle" ∧ (parseMethodDescriptor yX2_shoePressure.desc).map (fun d => d.parameters.length) = some 0 := by decide +kernel
abbrev rX2_allowedCasingPressure : Room := { frames := 4, cells := 0, slots := 0, locals := 94 }
theorem hdSX2_allowedCasingPressure : yX2_allowedCasingPressure.cls ≠ "java/lang/invoke/MethodHandle" ∧ yX2_allowedCasingPressure.cls ≠ "java/lang/invoke/VarHandle" ∧ (parseMethodDescriptor yX2_allowedCasingPressure.desc).map (fun d => d.parameters.length) = some 0 := by decide +kernel
theorem hdVX2_allowedCasingPressure : yX2_allowedCasingPressure.cls = RX2 ∧ yX2_allowedCasingPressure.cls ≠ "java/lang/invoke/MethodHandle" ∧ yX2_allowedCasingPressure.cls ≠ "java/lang/invoke/VarHandle" ∧ (parseMethodDescriptor yX2_allowedCasingPressure.desc).map (fun d => d.parameters.length) = some 0 := by decide +kernel
abbrev rX2_killDensity : Room := { frames := 2, cells := 0, slots := 0, locals := 47 }
theorem hdSX2_killDensity : yX2_killDensity.cls ≠ "java/lang/invoke/MethodHandle" ∧ yX2_killDensity.cls ≠ "java/lang/invoke/VarHandle" ∧ (parseMethodDescriptor yX2_killDensity.desc).map (fun d => d.parameters.length) = some 0 := by decide +kernel
theorem hdVX2_killDensity : yX2_killDensity.cls = RX2 ∧ yX2_killDensity.cls ≠ "java/lang/invoke/MethodHandle" ∧ yX2_killDensity.cls ≠ "java/lang/invoke/VarHandle" ∧ (parseMethodDescriptor yX2_killDensity.desc).map (fun d => d.parameters.length) = some 0 := by decide +kernel
abbrev rX2_killShoePressure : Room := { frames := 7, cells := 0, slots := 0, locals := 160 }
theorem hdSX2_killShoePressure : yX2_killShoePressure.cls ≠ "java/lang/invoke/MethodHandle" ∧ yX2_killShoePressure.cls ≠ "java/lang/invoke/VarHandle" ∧ (parseMethodDescriptor yX2_killShoePressure.desc).map (fun d => d.parameters.length) = some 2 := by decide +kernel
theorem hdVX2_killShoePressure : yX2_killShoePressure.cls = RX2 ∧ yX2_killShoePressure.cls ≠ "java/lang/invoke/MethodHandle" ∧ yX2_killShoePressure.cls ≠ "java/lang/invoke/VarHandle" ∧ (parseMethodDescriptor yX2_killShoePressure.desc).map (fun d => d.parameters.length) = some 2 := by decide +kernel
abbrev rX2_schedule : Room := { frames := 5, cells := 0, slots := 0, locals := 104 }
theorem hdSX2_schedule : yX2_schedule.cls ≠ "java/lang/invoke/MethodHandle" ∧ yX2_schedule.cls ≠ "java/lang/invoke/VarHandle" ∧ (parseMethodDescriptor yX2_schedule.desc).map (fun d => d.parameters.length) = some 1 := by decide +kernel
theorem hdVX2_schedule : yX2_schedule.cls = RX2 ∧ yX2_schedule.cls ≠ "java/lang/invoke/MethodHandle" ∧ yX2_schedule.cls ≠ "java/lang/invoke/VarHandle" ∧ (parseMethodDescriptor yX2_schedule.desc).map (fun d => d.parameters.length) = some 1 := by decide +kernel
abbrev rX2_strokesToBit : Room := { frames := 2, cells := 0, slots := 0, locals := 43 }
theorem hdSX2_strokesToBit : yX2_strokesToBit.cls ≠ "java/lang/invoke/MethodHandle" ∧ yX2_strokesToBit.cls ≠ "java/lang/invoke/VarHandle" ∧ (parseMethodDescriptor yX2_strokesToBit.desc).map (fun d => d.parameters.length) = some 1 := by decide +kernel
theorem hdVX2_strokesToBit : yX2_strokesToBit.cls = RX2 ∧ yX2_strokesToBit.cls ≠ "java/lang/invoke/MethodHandle" ∧ yX2_strokesToBit.cls ≠ "java/lang/invoke/VarHandle" ∧ (parseMethodDescriptor yX2_strokesToBit.desc).map (fun d => d.parameters.length) = some 1 := by decide +kernel
abbrev rX2_layers : Room := { frames := 2, cells := 0, slots := 0, locals := 43 }
theorem hdSX2_layers : yX2_layers.cls ≠ "java/lang/invoke/MethodHandle" ∧ yX2_layers.cls ≠ "java/lang/invoke/VarHandle" ∧ (parseMethodDescriptor yX2_layers.desc).map (fun d => d.parameters.length) = some 1 := by decide +kernel
theorem hdVX2_layers : yX2_layers.cls = RX2 ∧ yX2_layers.cls ≠ "java/lang/invoke/MethodHandle" ∧ yX2_layers.cls ≠ "java/lang/invoke/VarHandle" ∧ (parseMethodDescriptor yX2_layers.desc).map (fun d => d.parameters.length) = some 1 := by decide +kernel
abbrev rX2_layerVolume : Room := { frames := 3, cells := 0, slots := 0, locals := 65 }
theorem hdSX2_layerVolume : yX2_layerVolume.cls ≠ "java/lang/invoke/MethodHandle" ∧ yX2_layerVolume.cls ≠ "java/lang/invoke/VarHandle" ∧ (parseMethodDescriptor yX2_layerVolume.desc).map (fun d => d.parameters.length) = some 2 := by decide +kernel
theorem hdVX2_layerVolume : yX2_layerVolume.cls = RX2 ∧ yX2_layerVolume.cls ≠ "java/lang/invoke/MethodHandle" ∧ yX2_layerVolume.cls ≠ "java/lang/invoke/VarHandle" ∧ (parseMethodDescriptor yX2_layerVolume.desc).map (fun d => d.parameters.length) = some 2 := by decide +kernel
abbrev rX2_layerDensity : Room := { frames := 3, cells := 0, slots := 0, locals := 65 }
theorem hdSX2_layerDensity : yX2_layerDensity.cls ≠ "java/lang/invoke/MethodHandle" ∧ yX2_layerDensity.cls ≠ "java/lang/invoke/VarHandle" ∧ (parseMethodDescriptor yX2_layerDensity.desc).map (fun d => d.parameters.length) = some 2 := by decide +kernel
theorem hdVX2_layerDensity : yX2_layerDensity.cls = RX2 ∧ yX2_layerDensity.cls ≠ "java/lang/invoke/MethodHandle" ∧ yX2_layerDensity.cls ≠ "java/lang/invoke/VarHandle" ∧ (parseMethodDescriptor yX2_layerDensity.desc).map (fun d => d.parameters.length) = some 2 := by decide +kernel
abbrev rX2_gain : Room := { frames := 0, cells := 0, slots := 0, locals := 0 }
theorem hdSX2_gain : yX2_gain.cls ≠ "java/lang/invoke/MethodHandle" ∧ yX2_gain.cls ≠ "java/lang/invoke/VarHandle" ∧ (parseMethodDescriptor yX2_gain.desc).map (fun d => d.parameters.length) = some 0 := by decide +kernel
theorem hdVX2_gain : yX2_gain.cls = RX2 ∧ yX2_gain.cls ≠ "java/lang/invoke/MethodHandle" ∧ yX2_gain.cls ≠ "java/lang/invoke/VarHandle" ∧ (parseMethodDescriptor yX2_gain.desc).map (fun d => d.parameters.length) = some 0 := by decide +kernel
abbrev rX2_breaks : Room := { frames := 0, cells := 0, slots := 0, locals := 0 }
theorem hdSX2_breaks : yX2_breaks.cls ≠ "java/lang/invoke/MethodHandle" ∧ yX2_breaks.cls ≠ "java/lang/invoke/VarHandle" ∧ (parseMethodDescriptor yX2_breaks.desc).map (fun d => d.parameters.length) = some 0 := by decide +kernel
theorem hdVX2_breaks : yX2_breaks.cls = RX2 ∧ yX2_breaks.cls ≠ "java/lang/invoke/MethodHandle" ∧ yX2_breaks.cls ≠ "java/lang/invoke/VarHandle" ∧ (parseMethodDescriptor yX2_breaks.desc).map (fun d => d.parameters.length) = some 0 := by decide +kernel
abbrev rX2_greatestShoePressure : Room := { frames := 0, cells := 0, slots := 0, locals := 0 }
theorem hdSX2_greatestShoePressure : yX2_greatestShoePressure.cls ≠ "java/lang/invoke/MethodHandle" ∧ yX2_greatestShoePressure.cls ≠ "java/lang/invoke/VarHandle" ∧ (parseMethodDescriptor yX2_greatestShoePressure.desc).map (fun d => d.parameters.length) = some 0 := by decide +kernel
theorem hdVX2_greatestShoePressure : yX2_greatestShoePressure.cls = RX2 ∧ yX2_greatestShoePressure.cls ≠ "java/lang/invoke/MethodHandle" ∧ yX2_greatestShoePressure.cls ≠ "java/lang/invoke/VarHandle" ∧ (parseMethodDescriptor yX2_greatestShoePressure.desc).map (fun d => d.parameters.length) = some 0 := by decide +kernel
abbrev rX2_undo : Room := { frames := 2, cells := 0, slots := 0, locals := 43 }
theorem hdSX2_undo : yX2_undo.cls ≠ "java/lang/invoke/MethodHandle" ∧ yX2_undo.cls ≠ "java/lang/invoke/VarHandle" ∧ (parseMethodDescriptor yX2_undo.desc).map (fun d => d.parameters.length) = some 0 := by decide +kernel
theorem hdVX2_undo : yX2_undo.cls = RX2 ∧ yX2_undo.cls ≠ "java/lang/invoke/MethodHandle" ∧ yX2_undo.cls ≠ "java/lang/invoke/VarHandle" ∧ (parseMethodDescriptor yX2_undo.desc).map (fun d => d.parameters.length) = some 0 := by decide +kernel
abbrev rX2_errorCount : Room := { frames := 2, cells := 0, slots := 0, locals := 43 }
theorem hdSX2_errorCount : yX2_errorCount.cls ≠ "java/lang/invoke/MethodHandle" ∧ yX2_errorCount.cls ≠ "java/lang/invoke/VarHandle" ∧ (parseMethodDescriptor yX2_errorCount.desc).map (fun d => d.parameters.length) = some 1 := by decide +kernel
theorem hdVX2_errorCount : yX2_errorCount.cls = RX2 ∧ yX2_errorCount.cls ≠ "java/lang/invoke/MethodHandle" ∧ yX2_errorCount.cls ≠ "java/lang/invoke/VarHandle" ∧ (parseMethodDescriptor yX2_errorCount.desc).map (fun d => d.parameters.length) = some 1 := by decide +kernel
abbrev rX2_digest : Room := { frames := 6, cells := 0, slots := 0, locals := 136 }
theorem hdSX2_digest : yX2_digest.cls ≠ "java/lang/invoke/MethodHandle" ∧ yX2_digest.cls ≠ "java/lang/invoke/VarHandle" ∧ (parseMethodDescriptor yX2_digest.desc).map (fun d => d.parameters.length) = some 0 := by decide +kernel
theorem hdVX2_digest : yX2_digest.cls = RX2 ∧ yX2_digest.cls ≠ "java/lang/invoke/MethodHandle" ∧ yX2_digest.cls ≠ "java/lang/invoke/VarHandle" ∧ (parseMethodDescriptor yX2_digest.desc).map (fun d => d.parameters.length) = some 0 := by decide +kernel
abbrev rX2_within : Room := { frames := 0, cells := 0, slots := 0, locals := 0 }
theorem hdSX2_within : yX2_within.cls ≠ "java/lang/invoke/MethodHandle" ∧ yX2_within.cls ≠ "java/lang/invoke/VarHandle" ∧ (parseMethodDescriptor yX2_within.desc).map (fun d => d.parameters.length) = some 3 := by decide +kernel
theorem hdVX2_within : yX2_within.cls = RX2 ∧ yX2_within.cls ≠ "java/lang/invoke/MethodHandle" ∧ yX2_within.cls ≠ "java/lang/invoke/VarHandle" ∧ (parseMethodDescriptor yX2_within.desc).map (fun d => d.parameters.length) = some 3 := by decide +kernel
abbrev rX2_mixed : Room := { frames := 0, cells := 0, slots := 0, locals := 0 }
theorem hdSX2_mixed : yX2_mixed.cls ≠ "java/lang/invoke/MethodHandle" ∧ yX2_mixed.cls ≠ "java/lang/invoke/VarHandle" ∧ (parseMethodDescriptor yX2_mixed.desc).map (fun d => d.parameters.length) = some 2 := by decide +kernel
theorem hdVX2_mixed : yX2_mixed.cls = RX2 ∧ yX2_mixed.cls ≠ "java/lang/invoke/MethodHandle" ∧ yX2_mixed.cls ≠ "java/lang/invoke/VarHandle" ∧ (parseMethodDescriptor yX2_mixed.desc).map (fun d => d.parameters.length) = some 2 := by decide +kernel
abbrev rX2_portionsFor : Room := { frames := 1, cells := 0, slots := 0, locals := 21 }
theorem hdSX2_portionsFor : yX2_portionsFor.cls ≠ "java/lang/invoke/MethodHandle" ∧ yX2_portionsFor.cls ≠ "java/lang/invoke/VarHandle" ∧ (parseMethodDescriptor yX2_portionsFor.desc).map (fun d => d.parameters.length) = some 2 := by decide +kernel
theorem hdVX2_portionsFor : yX2_portionsFor.cls = RX2 ∧ yX2_portionsFor.cls ≠ "java/lang/invoke/MethodHandle" ∧ yX2_portionsFor.cls ≠ "java/lang/invoke/VarHandle" ∧ (parseMethodDescriptor yX2_portionsFor.desc).map (fun d => d.parameters.length) = some 2 := by decide +kernel
abbrev rX2_layerError : Room := { frames := 1, cells := 0, slots := 0, locals := 22 }
theorem hdSX2_layerError : yX2_layerError.cls ≠ "java/lang/invoke/MethodHandle" ∧ yX2_layerError.cls ≠ "java/lang/invoke/VarHandle" ∧ (parseMethodDescriptor yX2_layerError.desc).map (fun d => d.parameters.length) = some 2 := by decide +kernel
theorem hdVX2_layerError : yX2_layerError.cls = RX2 ∧ yX2_layerError.cls ≠ "java/lang/invoke/MethodHandle" ∧ yX2_layerError.cls ≠ "java/lang/invoke/VarHandle" ∧ (parseMethodDescriptor yX2_layerError.desc).map (fun d => d.parameters.length) = some 2 := by decide +kernel
abbrev rX2_refuse : Room := { frames := 1, cells := 0, slots := 0, locals := 22 }
theorem hdSX2_refuse : yX2_refuse.cls ≠ "java/lang/invoke/MethodHandle" ∧ yX2_refuse.cls ≠ "java/lang/invoke/VarHandle" ∧ (parseMethodDescriptor yX2_refuse.desc).map (fun d => d.parameters.length) = some 1 := by decide +kernel
theorem hdVX2_refuse : yX2_refuse.cls = RX2 ∧ yX2_refuse.cls ≠ "java/lang/invoke/MethodHandle" ∧ yX2_refuse.cls ≠ "java/lang/invoke/VarHandle" ∧ (parseMethodDescriptor yX2_refuse.desc).map (fun d => d.parameters.length) = some 1 := by decide +kernel
abbrev rX2_save : Room := { frames := 6, cells := 0, slots := 0, locals := 131 }
theorem hdSX2_save : yX2_save.cls ≠ "java/lang/invoke/MethodHandle" ∧ yX2_save.cls ≠ "java/lang/invoke/VarHandle" ∧ (parseMethodDescriptor yX2_save.desc).map (fun d => d.parameters.length) = some 0 := by decide +kernel
theorem hdVX2_save : yX2_save.cls = RX2 ∧ yX2_save.cls ≠ "java/lang/invoke/MethodHandle" ∧ yX2_save.cls ≠ "java/lang/invoke/VarHandle" ∧ (parseMethodDescriptor yX2_save.desc).map (fun d => d.parameters.length) = some 0 := by decide +kernel
abbrev rX2_dropOldestSaved : Room := { frames := 0, cells := 0, slots := 0, locals := 0 }
theorem hdSX2_dropOldestSaved : yX2_dropOldestSaved.cls ≠ "java/lang/invoke/MethodHandle" ∧ yX2_dropOldestSaved.cls ≠ "java/lang/invoke/VarHandle" ∧ (parseMethodDescriptor yX2_dropOldestSaved.desc).map (fun d => d.parameters.length) = some 0 := by decide +kernel
theorem hdVX2_dropOldestSaved : yX2_dropOldestSaved.cls = RX2 ∧ yX2_dropOldestSaved.cls ≠ "java/lang/invoke/MethodHandle" ∧ yX2_dropOldestSaved.cls ≠ "java/lang/invoke/VarHandle" ∧ (parseMethodDescriptor yX2_dropOldestSaved.desc).map (fun d => d.parameters.length) = some 0 := by decide +kernel
abbrev rX3_init : Room := { frames := 3, cells := 4, slots := 26500, locals := 63 }
theorem hdSX3_init : yX3_init.cls ≠ "java/lang/invoke/MethodHandle" ∧ yX3_init.cls ≠ "java/lang/invoke/VarHandle" ∧ (parseMethodDescriptor yX3_init.desc).map (fun d => d.parameters.length) = some 0 := by decide +kernel
theorem hdVX3_init : yX3_init.cls = RX3 ∧ yX3_init.cls ≠ "java/lang/invoke/MethodHandle" ∧ yX3_init.cls ≠ "java/lang/invoke/VarHandle" ∧ (parseMethodDescriptor yX3_init.desc).map (fun d => d.parameters.length) = some 0 := by decide +kernel
abbrev rX3_in : Room := { frames := 0, cells := 0, slots := 0, locals := 0 }
theorem hdSX3_in : yX3_in.cls ≠ "java/lang/invoke/MethodHandle" ∧ yX3_in.cls ≠ "java/lang/invoke/VarHandle" ∧ (parseMethodDescriptor yX3_in.desc).map (fun d => d.parameters.length) = some 3 := by decide +kernel
theorem hdVX3_in : yX3_in.cls = RX3 ∧ yX3_in.cls ≠ "java/lang/invoke/MethodHandle" ∧ yX3_in.cls ≠ "java/lang/invoke/VarHandle" ∧ (parseMethodDescriptor yX3_in.desc).map (fun d => d.parameters.length) = some 3 := by decide +kernel
abbrev rX3_error : Room := { frames := 0, cells := 0, slots := 0, locals := 0 }
theorem hdSX3_error : yX3_error.cls ≠ "java/lang/invoke/MethodHandle" ∧ yX3_error.cls ≠ "java/lang/invoke/VarHandle" ∧ (parseMethodDescriptor yX3_error.desc).map (fun d => d.parameters.length) = some 1 := by decide +kernel
theorem hdVX3_error : yX3_error.cls = RX3 ∧ yX3_error.cls ≠ "java/lang/invoke/MethodHandle" ∧ yX3_error.cls ≠ "java/lang/invoke/VarHandle" ∧ (parseMethodDescriptor yX3_error.desc).map (fun d => d.parameters.length) = some 1 := by decide +kernel
abbrev rX3_copy : Room := { frames := 0, cells := 0, slots := 0, locals := 0 }
theorem hdSX3_copy : yX3_copy.cls ≠ "java/lang/invoke/MethodHandle" ∧ yX3_copy.cls ≠ "java/lang/invoke/VarHandle" ∧ (parseMethodDescriptor yX3_copy.desc).map (fun d => d.parameters.length) = some 4 := by decide +kernel
theorem hdVX3_copy : yX3_copy.cls = RX3 ∧ yX3_copy.cls ≠ "java/lang/invoke/MethodHandle" ∧ yX3_copy.cls ≠ "java/lang/invoke/VarHandle" ∧ (parseMethodDescriptor yX3_copy.desc).map (fun d => d.parameters.length) = some 4 := by decide +kernel
abbrev rX3_save : Room := { frames := 1, cells := 0, slots := 0, locals := 26 }
theorem hdSX3_save : yX3_save.cls ≠ "java/lang/invoke/MethodHandle" ∧ yX3_save.cls ≠ "java/lang/invoke/VarHandle" ∧ (parseMethodDescriptor yX3_save.desc).map (fun d => d.parameters.length) = some 0 := by decide +kernel
theorem hdVX3_save : yX3_save.cls = RX3 ∧ yX3_save.cls ≠ "java/lang/invoke/MethodHandle" ∧ yX3_save.cls ≠ "java/lang/invoke/VarHandle" ∧ (parseMethodDescriptor yX3_save.desc).map (fun d => d.parameters.length) = some 0 := by decide +kernel
abbrev rX3_volumeAt : Room := { frames := 0, cells := 0, slots := 0, locals := 0 }
theorem hdSX3_volumeAt : yX3_volumeAt.cls ≠ "java/lang/invoke/MethodHandle" ∧ yX3_volumeAt.cls ≠ "java/lang/invoke/VarHandle" ∧ (parseMethodDescriptor yX3_volumeAt.desc).map (fun d => d.parameters.length) = some 2 := by decide +kernel
theorem hdVX3_volumeAt : yX3_volumeAt.cls = RX3 ∧ yX3_volumeAt.cls ≠ "java/lang/invoke/MethodHandle" ∧ yX3_volumeAt.cls ≠ "java/lang/invoke/VarHandle" ∧ (parseMethodDescriptor yX3_volumeAt.desc).map (fun d => d.parameters.length) = some 2 := by decide +kernel
abbrev rX3_densityAt : Room := { frames := 1, cells := 0, slots := 0, locals := 21 }
theorem hdSX3_densityAt : yX3_densityAt.cls ≠ "java/lang/invoke/MethodHandle" ∧ yX3_densityAt.cls ≠ "java/lang/invoke/VarHandle" ∧ (parseMethodDescriptor yX3_densityAt.desc).map (fun d => d.parameters.length) = some 2 := by decide +kernel
theorem hdVX3_densityAt : yX3_densityAt.cls = RX3 ∧ yX3_densityAt.cls ≠ "java/lang/invoke/MethodHandle" ∧ yX3_densityAt.cls ≠ "java/lang/invoke/VarHandle" ∧ (parseMethodDescriptor yX3_densityAt.desc).map (fun d => d.parameters.length) = some 2 := by decide +kernel
abbrev rX3_volumeOf : Room := { frames := 0, cells := 0, slots := 0, locals := 0 }
theorem hdSX3_volumeOf : yX3_volumeOf.cls ≠ "java/lang/invoke/MethodHandle" ∧ yX3_volumeOf.cls ≠ "java/lang/invoke/VarHandle" ∧ (parseMethodDescriptor yX3_volumeOf.desc).map (fun d => d.parameters.length) = some 1 := by decide +kernel
theorem hdVX3_volumeOf : yX3_volumeOf.cls = RX3 ∧ yX3_volumeOf.cls ≠ "java/lang/invoke/MethodHandle" ∧ yX3_volumeOf.cls ≠ "java/lang/invoke/VarHandle" ∧ (parseMethodDescriptor yX3_volumeOf.desc).map (fun d => d.parameters.length) = some 1 := by decide +kernel
abbrev rX3_fill : Room := { frames := 2, cells := 0, slots := 0, locals := 42 }
theorem hdSX3_fill : yX3_fill.cls ≠ "java/lang/invoke/MethodHandle" ∧ yX3_fill.cls ≠ "java/lang/invoke/VarHandle" ∧ (parseMethodDescriptor yX3_fill.desc).map (fun d => d.parameters.length) = some 0 := by decide +kernel
theorem hdVX3_fill : yX3_fill.cls = RX3 ∧ yX3_fill.cls ≠ "java/lang/invoke/MethodHandle" ∧ yX3_fill.cls ≠ "java/lang/invoke/VarHandle" ∧ (parseMethodDescriptor yX3_fill.desc).map (fun d => d.parameters.length) = some 0 := by decide +kernel
abbrev rX3_putOnTop : Room := { frames := 2, cells := 0, slots := 0, locals := 42 }
theorem hdSX3_putOnTop : yX3_putOnTop.cls ≠ "java/lang/invoke/MethodHandle" ∧ yX3_putOnTop.cls ≠ "java/lang/invoke/VarHandle" ∧ (parseMethodDescriptor yX3_putOnTop.desc).map (fun d => d.parameters.length) = some 2 := by decide +kernel
theorem hdVX3_putOnTop : yX3_putOnTop.cls = RX3 ∧ yX3_putOnTop.cls ≠ "java/lang/invoke/MethodHandle" ∧ yX3_putOnTop.cls ≠ "java/lang/invoke/VarHandle" ∧ (parseMethodDescriptor yX3_putOnTop.desc).map (fun d => d.parameters.length) = some 2 := by decide +kernel
abbrev rX3_enter : Room := { frames := 2, cells := 0, slots := 0, locals := 42 }
theorem hdSX3_enter : yX3_enter.cls ≠ "java/lang/invoke/MethodHandle" ∧ yX3_enter.cls ≠ "java/lang/invoke/VarHandle" ∧ (parseMethodDescriptor yX3_enter.desc).map (fun d => d.parameters.length) = some 2 := by decide +kernel
theorem hdVX3_enter : yX3_enter.cls = RX3 ∧ yX3_enter.cls ≠ "java/lang/invoke/MethodHandle" ∧ yX3_enter.cls ≠ "java/lang/invoke/VarHandle" ∧ (parseMethodDescriptor yX3_enter.desc).map (fun d => d.parameters.length) = some 2 := by decide +kernel
abbrev rX3_passOver : Room := { frames := 3, cells := 0, slots := 0, locals := 65 }
theorem hdSX3_passOver : yX3_passOver.cls ≠ "java/lang/invoke/MethodHandle" ∧ yX3_passOver.cls ≠ "java/lang/invoke/VarHandle" ∧ (parseMethodDescriptor yX3_passOver.desc).map (fun d => d.parameters.length) = some 1 := by decide +kernel
theorem hdVX3_passOver : yX3_passOver.cls = RX3 ∧ yX3_passOver.cls ≠ "java/lang/invoke/MethodHandle" ∧ yX3_passOver.cls ≠ "java/lang/invoke/VarHandle" ∧ (parseMethodDescriptor yX3_passOver.desc).map (fun d => d.parameters.length) = some 1 := by decide +kernel
abbrev rX3_leave : Room := { frames := 2, cells := 0, slots := 0, locals := 42 }
theorem hdSX3_leave : yX3_leave.cls ≠ "java/lang/invoke/MethodHandle" ∧ yX3_leave.cls ≠ "java/lang/invoke/VarHandle" ∧ (parseMethodDescriptor yX3_leave.desc).map (fun d => d.parameters.length) = some 1 := by decide +kernel
theorem hdVX3_leave : yX3_leave.cls = RX3 ∧ yX3_leave.cls ≠ "java/lang/invoke/MethodHandle" ∧ yX3_leave.cls ≠ "java/lang/invoke/VarHandle" ∧ (parseMethodDescriptor yX3_leave.desc).map (fun d => d.parameters.length) = some 1 := by decide +kernel
abbrev rX3_pumpMud : Room := { frames := 4, cells := 0, slots := 0, locals := 89 }
theorem hdSX3_pumpMud : yX3_pumpMud.cls ≠ "java/lang/invoke/MethodHandle" ∧ yX3_pumpMud.cls ≠ "java/lang/invoke/VarHandle" ∧ (parseMethodDescriptor yX3_pumpMud.desc).map (fun d => d.parameters.length) = some 2 := by decide +kernel
theorem hdVX3_pumpMud : yX3_pumpMud.cls = RX3 ∧ yX3_pumpMud.cls ≠ "java/lang/invoke/MethodHandle" ∧ yX3_pumpMud.cls ≠ "java/lang/invoke/VarHandle" ∧ (parseMethodDescriptor yX3_pumpMud.desc).map (fun d => d.parameters.length) = some 2 := by decide +kernel
abbrev rX3_pressureOf : Room := { frames := 2, cells := 0, slots := 0, locals := 42 }
theorem hdSX3_pressureOf : yX3_pressureOf.cls ≠ "java/lang/invoke/MethodHandle" ∧ yX3_pressureOf.cls ≠ "java/lang/invoke/VarHandle" ∧ (parseMethodDescriptor yX3_pressureOf.desc).map (fun d => d.parameters.length) = some 2 := by decide +kernel
theorem hdVX3_pressureOf : yX3_pressureOf.cls = RX3 ∧ yX3_pressureOf.cls ≠ "java/lang/invoke/MethodHandle" ∧ yX3_pressureOf.cls ≠ "java/lang/invoke/VarHandle" ∧ (parseMethodDescriptor yX3_pressureOf.desc).map (fun d => d.parameters.length) = some 2 := by decide +kernel
abbrev rX3_lacking : Room := { frames := 3, cells := 0, slots := 0, locals := 69 }
theorem hdSX3_lacking : yX3_lacking.cls ≠ "java/lang/invoke/MethodHandle" ∧ yX3_lacking.cls ≠ "java/lang/invoke/VarHandle" ∧ (parseMethodDescriptor yX3_lacking.desc).map (fun d => d.parameters.length) = some 1 := by decide +kernel
theorem hdVX3_lacking : yX3_lacking.cls = RX3 ∧ yX3_lacking.cls ≠ "java/lang/invoke/MethodHandle" ∧ yX3_lacking.cls ≠ "java/lang/invoke/VarHandle" ∧ (parseMethodDescriptor yX3_lacking.desc).map (fun d => d.parameters.length) = some 1 := by decide +kernel
abbrev rX3_atShoe : Room := { frames := 4, cells := 0, slots := 0, locals := 91 }
theorem hdSX3_atShoe : yX3_atShoe.cls ≠ "java/lang/invoke/MethodHandle" ∧ yX3_atShoe.cls ≠ "java/lang/invoke/VarHandle" ∧ (parseMethodDescriptor yX3_atShoe.desc).map (fun d => d.parameters.length) = some 0 := by decide +kernel
theorem hdVX3_atShoe : yX3_atShoe.cls = RX3 ∧ yX3_atShoe.cls ≠ "java/lang/invoke/MethodHandle" ∧ yX3_atShoe.cls ≠ "java/lang/invoke/VarHandle" ∧ (parseMethodDescriptor yX3_atShoe.desc).map (fun d => d.parameters.length) = some 0 := by decide +kernel
abbrev rX3_check : Room := { frames := 5, cells := 0, slots := 0, locals := 111 }
theorem hdSX3_check : yX3_check.cls ≠ "java/lang/invoke/MethodHandle" ∧ yX3_check.cls ≠ "java/lang/invoke/VarHandle" ∧ (parseMethodDescriptor yX3_check.desc).map (fun d => d.parameters.length) = some 0 := by decide +kernel
theorem hdVX3_check : yX3_check.cls = RX3 ∧ yX3_check.cls ≠ "java/lang/invoke/MethodHandle" ∧ yX3_check.cls ≠ "java/lang/invoke/VarHandle" ∧ (parseMethodDescriptor yX3_check.desc).map (fun d => d.parameters.length) = some 0 := by decide +kernel
abbrev rX3_setGeometry : Room := { frames := 3, cells := 0, slots := 0, locals := 63 }
theorem hdSX3_setGeometry : yX3_setGeometry.cls ≠ "java/lang/invoke/MethodHandle" ∧ yX3_setGeometry.cls ≠ "java/lang/invoke/VarHandle" ∧ (parseMethodDescriptor yX3_setGeometry.desc).map (fun d => d.parameters.length) = some 4 := by decide +kernel
theorem hdVX3_setGeometry : yX3_setGeometry.cls = RX3 ∧ yX3_setGeometry.cls ≠ "java/lang/invoke/MethodHandle" ∧ yX3_setGeometry.cls ≠ "java/lang/invoke/VarHandle" ∧ (parseMethodDescriptor yX3_setGeometry.desc).map (fun d => d.parameters.length) = some 4 := by decide +kernel
abbrev rX3_set : Room := { frames := 2, cells := 0, slots := 0, locals := 47 }
theorem hdSX3_set : yX3_set.cls ≠ "java/lang/invoke/MethodHandle" ∧ yX3_set.cls ≠ "java/lang/invoke/VarHandle" ∧ (parseMethodDescriptor yX3_set.desc).map (fun d => d.parameters.length) = some 4 := by decide +kernel
theorem hdVX3_set : yX3_set.cls = RX3 ∧ yX3_set.cls ≠ "java/lang/invoke/MethodHandle" ∧ yX3_set.cls ≠ "java/lang/invoke/VarHandle" ∧ (parseMethodDescriptor yX3_set.desc).map (fun d => d.parameters.length) = some 4 := by decide +kernel
abbrev rX3_setMud : Room := { frames := 3, cells := 0, slots := 0, locals := 72 }
theorem hdSX3_setMud : yX3_setMud.cls ≠ "java/lang/invoke/MethodHandle" ∧ yX3_setMud.cls ≠ "java/lang/invoke/VarHandle" ∧ (parseMethodDescriptor yX3_setMud.desc).map (fun d => d.parameters.length) = some 1 := by decide +kernel
theorem hdVX3_setMud : yX3_setMud.cls = RX3 ∧ yX3_setMud.cls ≠ "java/lang/invoke/MethodHandle" ∧ yX3_setMud.cls ≠ "java/lang/invoke/VarHandle" ∧ (parseMethodDescriptor yX3_setMud.desc).map (fun d => d.parameters.length) = some 1 := by decide +kernel
abbrev rX3_setFormation : Room := { frames := 3, cells := 0, slots := 0, locals := 72 }
theorem hdSX3_setFormation : yX3_setFormation.cls ≠ "java/lang/invoke/MethodHandle" ∧ yX3_setFormation.cls ≠ "java/lang/invoke/VarHandle" ∧ (parseMethodDescriptor yX3_setFormation.desc).map (fun d => d.parameters.length) = some 1 := by decide +kernel
theorem hdVX3_setFormation : yX3_setFormation.cls = RX3 ∧ yX3_setFormation.cls ≠ "java/lang/invoke/MethodHandle" ∧ yX3_setFormation.cls ≠ "java/lang/invoke/VarHandle" ∧ (parseMethodDescriptor yX3_setFormation.desc).map (fun d => d.parameters.length) = some 1 := by decide +kernel
abbrev rX3_setSlowPump : Room := { frames := 3, cells := 0, slots := 0, locals := 72 }
theorem hdSX3_setSlowPump : yX3_setSlowPump.cls ≠ "java/lang/invoke/MethodHandle" ∧ yX3_setSlowPump.cls ≠ "java/lang/invoke/VarHandle" ∧ (parseMethodDescriptor yX3_setSlowPump.desc).map (fun d => d.parameters.length) = some 1 := by decide +kernel
theorem hdVX3_setSlowPump : yX3_setSlowPump.cls = RX3 ∧ yX3_setSlowPump.cls ≠ "java/lang/invoke/MethodHandle" ∧ yX3_setSlowPump.cls ≠ "java/lang/invoke/VarHandle" ∧ (parseMethodDescriptor yX3_setSlowPump.desc).map (fun d => d.parameters.length) = some 1 := by decide +kernel
abbrev rX3_setFracture : Room := { frames := 3, cells := 0, slots := 0, locals := 72 }
theorem hdSX3_setFracture : yX3_setFracture.cls ≠ "java/lang/invoke/MethodHandle" ∧ yX3_setFracture.cls ≠ "java/lang/invoke/VarHandle" ∧ (parseMethodDescriptor yX3_setFracture.desc).map (fun d => d.parameters.length) = some 1 := by decide +kernel
theorem hdVX3_setFracture : yX3_setFracture.cls = RX3 ∧ yX3_setFracture.cls ≠ "java/lang/invoke/MethodHandle" ∧ yX3_setFracture.cls ≠ "java/lang/invoke/VarHandle" ∧ (parseMethodDescriptor yX3_setFracture.desc).map (fun d => d.parameters.length) = some 1 := by decide +kernel
abbrev rX3_pump : Room := { frames := 6, cells := 0, slots := 0, locals := 132 }
theorem hdSX3_pump : yX3_pump.cls ≠ "java/lang/invoke/MethodHandle" ∧ yX3_pump.cls ≠ "java/lang/invoke/VarHandle" ∧ (parseMethodDescriptor yX3_pump.desc).map (fun d => d.parameters.length) = some 1 := by decide +kernel
theorem hdVX3_pump : yX3_pump.cls = RX3 ∧ yX3_pump.cls ≠ "java/lang/invoke/MethodHandle" ∧ yX3_pump.cls ≠ "java/lang/invoke/VarHandle" ∧ (parseMethodDescriptor yX3_pump.desc).map (fun d => d.parameters.length) = some 1 := by decide +kernel
abbrev rX3_influx : Room := { frames := 6, cells := 0, slots := 0, locals := 132 }
theorem hdSX3_influx : yX3_influx.cls ≠ "java/lang/invoke/MethodHandle" ∧ yX3_influx.cls ≠ "java/lang/invoke/VarHandle" ∧ (parseMethodDescriptor yX3_influx.desc).map (fun d => d.parameters.length) = some 2 := by decide +kernel
theorem hdVX3_influx : yX3_influx.cls = RX3 ∧ yX3_influx.cls ≠ "java/lang/invoke/MethodHandle" ∧ yX3_influx.cls ≠ "java/lang/invoke/VarHandle" ∧ (parseMethodDescriptor yX3_influx.desc).map (fun d => d.parameters.length) = some 2 := by decide +kernel
abbrev rX3_isColumn : Room := { frames := 1, cells := 0, slots := 0, locals := 22 }
theorem hdSX3_isColumn : yX3_isColumn.cls ≠ "java/lang/invoke/MethodHandle" ∧ yX3_isColumn.cls ≠ "java/lang/invoke/VarHandle" ∧ (parseMethodDescriptor yX3_isColumn.desc).map (fun d => d.parameters.length) = some 1 := by decide +kernel
theorem hdVX3_isColumn : yX3_isColumn.cls = RX3 ∧ yX3_isColumn.cls ≠ "java/lang/invoke/MethodHandle" ∧ yX3_isColumn.cls ≠ "java/lang/invoke/VarHandle" ∧ (parseMethodDescriptor yX3_isColumn.desc).map (fun d => d.parameters.length) = some 1 := by decide +kernel
abbrev rX3_hydrostatic : Room := { frames := 3, cells := 0, slots := 0, locals := 69 }
theorem hdSX3_hydrostatic : yX3_hydrostatic.cls ≠ "java/lang/invoke/MethodHandle" ∧ yX3_hydrostatic.cls ≠ "java/lang/invoke/VarHandle" ∧ (parseMethodDescriptor yX3_hydrostatic.desc).map (fun d => d.parameters.length) = some 1 := by decide +kernel
theorem hdVX3_hydrostatic : yX3_hydrostatic.cls = RX3 ∧ yX3_hydrostatic.cls ≠ "java/lang/invoke/MethodHandle" ∧ yX3_hydrostatic.cls ≠ "java/lang/invoke/VarHandle" ∧ (parseMethodDescriptor yX3_hydrostatic.desc).map (fun d => d.parameters.length) = some 1 := by decide +kernel
abbrev rX3_hydrostaticAbove : Room := { frames := 3, cells := 0, slots := 0, locals := 69 }
theorem hdSX3_hydrostaticAbove : yX3_hydrostaticAbove.cls ≠ "java/lang/invoke/MethodHandle" ∧ yX3_hydrostaticAbove.cls ≠ "java/lang/invoke/VarHandle" ∧ (parseMethodDescriptor yX3_hydrostaticAbove.desc).map (fun d => d.parameters.length) = some 2 := by decide +kernel
theorem hdVX3_hydrostaticAbove : yX3_hydrostaticAbove.cls = RX3 ∧ yX3_hydrostaticAbove.cls ≠ "java/lang/invoke/MethodHandle" ∧ yX3_hydrostaticAbove.cls ≠ "java/lang/invoke/VarHandle" ∧ (parseMethodDescriptor yX3_hydrostaticAbove.desc).map (fun d => d.parameters.length) = some 2 := by decide +kernel
abbrev rX3_drillPipePressure : Room := { frames := 4, cells := 0, slots := 0, locals := 91 }
theorem hdSX3_drillPipePressure : yX3_drillPipePressure.cls ≠ "java/lang/invoke/MethodHandle" ∧ yX3_drillPipePressure.cls ≠ "java/lang/invoke/VarHandle" ∧ (parseMethodDescriptor yX3_drillPipePressure.desc).map (fun d => d.parameters.length) = some 0 := by decide +kernel
theorem hdVX3_drillPipePressure : yX3_drillPipePressure.cls = RX3 ∧ yX3_drillPipePressure.cls ≠ "java/lang/invoke/MethodHandle" ∧ yX3_drillPipePressure.cls ≠ "java/lang/invoke/VarHandle" ∧ (parseMethodDescriptor yX3_drillPipePressure.desc).map (fun d => d.parameters.length) = some 0 := by decide +kernel
abbrev rX3_casingPressure : Room := { frames := 4, cells := 0, slots := 0, locals := 91 }
theorem hdSX3_casingPressure : yX3_casingPressure.cls ≠ "java/lang/invoke/MethodHandle" ∧ yX3_casingPressure.cls ≠ "java/lang/invoke/VarHandle" ∧ (parseMethodDescriptor yX3_casingPressure.desc).map (fun d => d.parameters.length) = some 0 := by decide +kernel
theorem hdVX3_casingPressure : yX3_casingPressure.cls = RX3 ∧ yX3_casingPressure.cls ≠ "java/lang/invoke/MethodHandle" ∧ yX3_casingPressure.cls ≠ "java/lang/invoke/VarHandle" ∧ (parseMethodDescriptor yX3_casingPressure.desc).map (fun d => d.parameters.length) = some 0 := by decide +kernel
abbrev rX3_standpipePressure : Room := { frames := 4, cells := 0, slots := 0, locals := 91 }
theorem hdSX3_standpipePressure : yX3_standpipePressure.cls ≠ "java/lang/invoke/MethodHandle" ∧ yX3_standpipePressure.cls ≠ "java/lang/invoke/VarHandle" ∧ (parseMethodDescriptor yX3_standpipePressure.desc).map (fun d => d.parameters.length) = some 0 := by decide +kernel
theorem hdVX3_standpipePressure : yX3_standpipePressure.cls = RX3 ∧ yX3_standpipePressure.cls ≠ "java/lang/invoke/MethodHandle" ∧ yX3_standpipePressure.cls ≠ "java/lang/invoke/VarHandle" ∧ (parseMethodDescriptor yX3_standpipePressure.desc).map (fun d => d.parameters.length) = some 0 := by decide +kernel
abbrev rX3_shoePressure : Room := { frames := 5, cells := 0, slots := 0, locals := 111 }
theorem hdSX3_shoePressure : yX3_shoePressure.cls ≠ "java/lang/invoke/MethodHandle" ∧ yX3_shoePressure.cls ≠ "java/lang/invoke/VarHandle" ∧ (parseMethodDescriptor yX3_shoePressure.desc).map (fun d => d.parameters.length) = some 0 := by decide +kernel
theorem hdVX3_shoePressure : yX3_shoePressure.cls = RX3 ∧ yX3_shoePressure.cls ≠ "java/lang/invoke/MethodHandle" ∧ yX3_shoePressure.cls ≠ "java/lang/invoke/VarHandle" ∧ (parseMethodDescriptor yX3_shoePressure.desc).map (fun d => d.parameters.length) = some 0 := by decide +kernel
abbrev rX3_allowedCasingPressure : Room := { frames := 3, cells := 0, slots := 0, locals := 69 }
theorem hdSX3_allowedCasingPressure : yX3_allowedCasingPressure.cls ≠ "java/lang/invoke/MethodHandle" ∧ yX3_allowedCasingPressure.cls ≠ "java/lang/invoke/VarHandle" ∧ (parseMethodDescriptor yX3_allowedCasingPressure.desc).map (fun d => d.parameters.length) = some 0 := by decide +kernel
theorem hdVX3_allowedCasingPressure : yX3_allowedCasingPressure.cls = RX3 ∧ yX3_allowedCasingPressure.cls ≠ "java/lang/invoke/MethodHandle" ∧ yX3_allowedCasingPressure.cls ≠ "java/lang/invoke/VarHandle" ∧ (parseMethodDescriptor yX3_allowedCasingPressure.desc).map (fun d => d.parameters.length) = some 0 := by decide +kernel
abbrev rX3_leastDensity : Room := { frames := 1, cells := 0, slots := 0, locals := 21 }
theorem hdSX3_leastDensity : yX3_leastDensity.cls ≠ "java/lang/invoke/MethodHandle" ∧ yX3_leastDensity.cls ≠ "java/lang/invoke/VarHandle" ∧ (parseMethodDescriptor yX3_leastDensity.desc).map (fun d => d.parameters.length) = some 0 := by decide +kernel
theorem hdVX3_leastDensity : yX3_leastDensity.cls = RX3 ∧ yX3_leastDensity.cls ≠ "java/lang/invoke/MethodHandle" ∧ yX3_leastDensity.cls ≠ "java/lang/invoke/VarHandle" ∧ (parseMethodDescriptor yX3_leastDensity.desc).map (fun d => d.parameters.length) = some 0 := by decide +kernel
abbrev rX3_killDensity : Room := { frames := 2, cells := 0, slots := 0, locals := 44 }
theorem hdSX3_killDensity : yX3_killDensity.cls ≠ "java/lang/invoke/MethodHandle" ∧ yX3_killDensity.cls ≠ "java/lang/invoke/VarHandle" ∧ (parseMethodDescriptor yX3_killDensity.desc).map (fun d => d.parameters.length) = some 0 := by decide +kernel
theorem hdVX3_killDensity : yX3_killDensity.cls = RX3 ∧ yX3_killDensity.cls ≠ "java/lang/invoke/MethodHandle" ∧ yX3_killDensity.cls ≠ "java/lang/invoke/VarHandle" ∧ (parseMethodDescriptor yX3_killDensity.desc).map (fun d => d.parameters.length) = some 0 := by decide +kernel
abbrev rX3_pumpAll : Room := { frames := 5, cells := 0, slots := 0, locals := 111 }
theorem hdSX3_pumpAll : yX3_pumpAll.cls ≠ "java/lang/invoke/MethodHandle" ∧ yX3_pumpAll.cls ≠ "java/lang/invoke/VarHandle" ∧ (parseMethodDescriptor yX3_pumpAll.desc).map (fun d => d.parameters.length) = some 4 := by decide +kernel
theorem hdVX3_pumpAll : yX3_pumpAll.cls = RX3 ∧ yX3_pumpAll.cls ≠ "java/lang/invoke/MethodHandle" ∧ yX3_pumpAll.cls ≠ "java/lang/invoke/VarHandle" ∧ (parseMethodDescriptor yX3_pumpAll.desc).map (fun d => d.parameters.length) = some 4 := by decide +kernel
abbrev rX3_killShoePressure : Room := { frames := 6, cells := 0, slots := 0, locals := 138 }
theorem hdSX3_killShoePressure : yX3_killShoePressure.cls ≠ "java/lang/invoke/MethodHandle" ∧ yX3_killShoePressure.cls ≠ "java/lang/invoke/VarHandle" ∧ (parseMethodDescriptor yX3_killShoePressure.desc).map (fun d => d.parameters.length) = some 2 := by decide +kernel
theorem hdVX3_killShoePressure : yX3_killShoePressure.cls = RX3 ∧ yX3_killShoePressure.cls ≠ "java/lang/invoke/MethodHandle" ∧ yX3_killShoePressure.cls ≠ "java/lang/invoke/VarHandle" ∧ (parseMethodDescriptor yX3_killShoePressure.desc).map (fun d => d.parameters.length) = some 2 := by decide +kernel
abbrev rX3_schedule : Room := { frames := 4, cells := 0, slots := 0, locals := 91 }
theorem hdSX3_schedule : yX3_schedule.cls ≠ "java/lang/invoke/MethodHandle" ∧ yX3_schedule.cls ≠ "java/lang/invoke/VarHandle" ∧ (parseMethodDescriptor yX3_schedule.desc).map (fun d => d.parameters.length) = some 1 := by decide +kernel
theorem hdVX3_schedule : yX3_schedule.cls = RX3 ∧ yX3_schedule.cls ≠ "java/lang/invoke/MethodHandle" ∧ yX3_schedule.cls ≠ "java/lang/invoke/VarHandle" ∧ (parseMethodDescriptor yX3_schedule.desc).map (fun d => d.parameters.length) = some 1 := by decide +kernel
abbrev rX3_strokesToBit : Room := { frames := 1, cells := 0, slots := 0, locals := 22 }
theorem hdSX3_strokesToBit : yX3_strokesToBit.cls ≠ "java/lang/invoke/MethodHandle" ∧ yX3_strokesToBit.cls ≠ "java/lang/invoke/VarHandle" ∧ (parseMethodDescriptor yX3_strokesToBit.desc).map (fun d => d.parameters.length) = some 1 := by decide +kernel
theorem hdVX3_strokesToBit : yX3_strokesToBit.cls = RX3 ∧ yX3_strokesToBit.cls ≠ "java/lang/invoke/MethodHandle" ∧ yX3_strokesToBit.cls ≠ "java/lang/invoke/VarHandle" ∧ (parseMethodDescriptor yX3_strokesToBit.desc).map (fun d => d.parameters.length) = some 1 := by decide +kernel
abbrev rX3_layers : Room := { frames := 2, cells := 0, slots := 0, locals := 42 }
theorem hdSX3_layers : yX3_layers.cls ≠ "java/lang/invoke/MethodHandle" ∧ yX3_layers.cls ≠ "java/lang/invoke/VarHandle" ∧ (parseMethodDescriptor yX3_layers.desc).map (fun d => d.parameters.length) = some 1 := by decide +kernel
theorem hdVX3_layers : yX3_layers.cls = RX3 ∧ yX3_layers.cls ≠ "java/lang/invoke/MethodHandle" ∧ yX3_layers.cls ≠ "java/lang/invoke/VarHandle" ∧ (parseMethodDescriptor yX3_layers.desc).map (fun d => d.parameters.length) = some 1 := by decide +kernel
abbrev rX3_ofLayer : Room := { frames := 2, cells := 0, slots := 0, locals := 42 }
theorem hdSX3_ofLayer : yX3_ofLayer.cls ≠ "java/lang/invoke/MethodHandle" ∧ yX3_ofLayer.cls ≠ "java/lang/invoke/VarHandle" ∧ (parseMethodDescriptor yX3_ofLayer.desc).map (fun d => d.parameters.length) = some 3 := by decide +kernel
theorem hdVX3_ofLayer : yX3_ofLayer.cls = RX3 ∧ yX3_ofLayer.cls ≠ "java/lang/invoke/MethodHandle" ∧ yX3_ofLayer.cls ≠ "java/lang/invoke/VarHandle" ∧ (parseMethodDescriptor yX3_ofLayer.desc).map (fun d => d.parameters.length) = some 3 := by decide +kernel
abbrev rX3_layerVolume : Room := { frames := 3, cells := 0, slots := 0, locals := 65 }
theorem hdSX3_layerVolume : yX3_layerVolume.cls ≠ "java/lang/invoke/MethodHandle" ∧ yX3_layerVolume.cls ≠ "java/lang/invoke/VarHandle" ∧ (parseMethodDescriptor yX3_layerVolume.desc).map (fun d => d.parameters.length) = some 2 := by decide +kernel
theorem hdVX3_layerVolume : yX3_layerVolume.cls = RX3 ∧ yX3_layerVolume.cls ≠ "java/lang/invoke/MethodHandle" ∧ yX3_layerVolume.cls ≠ "java/lang/invoke/VarHandle" ∧ (parseMethodDescriptor yX3_layerVolume.desc).map (fun d => d.parameters.length) = some 2 := by decide +kernel
abbrev rX3_layerDensity : Room := { frames := 3, cells := 0, slots := 0, locals := 65 }
theorem hdSX3_layerDensity : yX3_layerDensity.cls ≠ "java/lang/invoke/MethodHandle" ∧ yX3_layerDensity.cls ≠ "java/lang/invoke/VarHandle" ∧ (parseMethodDescriptor yX3_layerDensity.desc).map (fun d => d.parameters.length) = some 2 := by decide +kernel
theorem hdVX3_layerDensity : yX3_layerDensity.cls = RX3 ∧ yX3_layerDensity.cls ≠ "java/lang/invoke/MethodHandle" ∧ yX3_layerDensity.cls ≠ "java/lang/invoke/VarHandle" ∧ (parseMethodDescriptor yX3_layerDensity.desc).map (fun d => d.parameters.length) = some 2 := by decide +kernel
abbrev rX3_gain : Room := { frames := 0, cells := 0, slots := 0, locals := 0 }
theorem hdSX3_gain : yX3_gain.cls ≠ "java/lang/invoke/MethodHandle" ∧ yX3_gain.cls ≠ "java/lang/invoke/VarHandle" ∧ (parseMethodDescriptor yX3_gain.desc).map (fun d => d.parameters.length) = some 0 := by decide +kernel
theorem hdVX3_gain : yX3_gain.cls = RX3 ∧ yX3_gain.cls ≠ "java/lang/invoke/MethodHandle" ∧ yX3_gain.cls ≠ "java/lang/invoke/VarHandle" ∧ (parseMethodDescriptor yX3_gain.desc).map (fun d => d.parameters.length) = some 0 := by decide +kernel
abbrev rX3_breaks : Room := { frames := 0, cells := 0, slots := 0, locals := 0 }
theorem hdSX3_breaks : yX3_breaks.cls ≠ "java/lang/invoke/MethodHandle" ∧ yX3_breaks.cls ≠ "java/lang/invoke/VarHandle" ∧ (parseMethodDescriptor yX3_breaks.desc).map (fun d => d.parameters.length) = some 0 := by decide +kernel
theorem hdVX3_breaks : yX3_breaks.cls = RX3 ∧ yX3_breaks.cls ≠ "java/lang/invoke/MethodHandle" ∧ yX3_breaks.cls ≠ "java/lang/invoke/VarHandle" ∧ (parseMethodDescriptor yX3_breaks.desc).map (fun d => d.parameters.length) = some 0 := by decide +kernel
abbrev rX3_greatestShoePressure : Room := { frames := 0, cells := 0, slots := 0, locals := 0 }
theorem hdSX3_greatestShoePressure : yX3_greatestShoePressure.cls ≠ "java/lang/invoke/MethodHandle" ∧ yX3_greatestShoePressure.cls ≠ "java/lang/invoke/VarHandle" ∧ (parseMethodDescriptor yX3_greatestShoePressure.desc).map (fun d => d.parameters.length) = some 0 := by decide +kernel
theorem hdVX3_greatestShoePressure : yX3_greatestShoePressure.cls = RX3 ∧ yX3_greatestShoePressure.cls ≠ "java/lang/invoke/MethodHandle" ∧ yX3_greatestShoePressure.cls ≠ "java/lang/invoke/VarHandle" ∧ (parseMethodDescriptor yX3_greatestShoePressure.desc).map (fun d => d.parameters.length) = some 0 := by decide +kernel
abbrev rX3_undo : Room := { frames := 1, cells := 0, slots := 0, locals := 26 }
theorem hdSX3_undo : yX3_undo.cls ≠ "java/lang/invoke/MethodHandle" ∧ yX3_undo.cls ≠ "java/lang/invoke/VarHandle" ∧ (parseMethodDescriptor yX3_undo.desc).map (fun d => d.parameters.length) = some 0 := by decide +kernel
theorem hdVX3_undo : yX3_undo.cls = RX3 ∧ yX3_undo.cls ≠ "java/lang/invoke/MethodHandle" ∧ yX3_undo.cls ≠ "java/lang/invoke/VarHandle" ∧ (parseMethodDescriptor yX3_undo.desc).map (fun d => d.parameters.length) = some 0 := by decide +kernel
abbrev rX3_errorCount : Room := { frames := 1, cells := 0, slots := 0, locals := 22 }
theorem hdSX3_errorCount : yX3_errorCount.cls ≠ "java/lang/invoke/MethodHandle" ∧ yX3_errorCount.cls ≠ "java/lang/invoke/VarHandle" ∧ (parseMethodDescriptor yX3_errorCount.desc).map (fun d => d.parameters.length) = some 1 := by decide +kernel
theorem hdVX3_errorCount : yX3_errorCount.cls = RX3 ∧ yX3_errorCount.cls ≠ "java/lang/invoke/MethodHandle" ∧ yX3_errorCount.cls ≠ "java/lang/invoke/VarHandle" ∧ (parseMethodDescriptor yX3_errorCount.desc).map (fun d => d.parameters.length) = some 1 := by decide +kernel
abbrev rX3_mix : Room := { frames := 0, cells := 0, slots := 0, locals := 0 }
theorem hdSX3_mix : yX3_mix.cls ≠ "java/lang/invoke/MethodHandle" ∧ yX3_mix.cls ≠ "java/lang/invoke/VarHandle" ∧ (parseMethodDescriptor yX3_mix.desc).map (fun d => d.parameters.length) = some 1 := by decide +kernel
theorem hdVX3_mix : yX3_mix.cls = RX3 ∧ yX3_mix.cls ≠ "java/lang/invoke/MethodHandle" ∧ yX3_mix.cls ≠ "java/lang/invoke/VarHandle" ∧ (parseMethodDescriptor yX3_mix.desc).map (fun d => d.parameters.length) = some 1 := by decide +kernel
abbrev rX3_digest : Room := { frames := 5, cells := 0, slots := 0, locals := 111 }
theorem hdSX3_digest : yX3_digest.cls ≠ "java/lang/invoke/MethodHandle" ∧ yX3_digest.cls ≠ "java/lang/invoke/VarHandle" ∧ (parseMethodDescriptor yX3_digest.desc).map (fun d => d.parameters.length) = some 0 := by decide +kernel
theorem hdVX3_digest : yX3_digest.cls = RX3 ∧ yX3_digest.cls ≠ "java/lang/invoke/MethodHandle" ∧ yX3_digest.cls ≠ "java/lang/invoke/VarHandle" ∧ (parseMethodDescriptor yX3_digest.desc).map (fun d => d.parameters.length) = some 0 := by decide +kernel
abbrev rJ9_floorMod_7cf53 : Room := { frames := 0, cells := 0, slots := 0, locals := 0 }
theorem hdSJ9_floorMod_7cf53 : yJ9_floorMod_7cf53.cls ≠ "java/lang/invoke/MethodHandle" ∧ yJ9_floorMod_7cf53.cls ≠ "java/lang/invoke/VarHandle" ∧ (parseMethodDescriptor yJ9_floorMod_7cf53.desc).map (fun d => d.parameters.length) = some 2 := by decide +kernel
theorem hdVJ9_floorMod_7cf53 : yJ9_floorMod_7cf53.cls = RJ9 ∧ yJ9_floorMod_7cf53.cls ≠ "java/lang/invoke/MethodHandle" ∧ yJ9_floorMod_7cf53.cls ≠ "java/lang/invoke/VarHandle" ∧ (parseMethodDescriptor yJ9_floorMod_7cf53.desc).map (fun d => d.parameters.length) = some 2 := by decide +kernel

section
-- ===== PART A: goes FIRST, ahead of the names: the tables' words, and 'selects' of the private methods out of them =====
/-- a private method of a class that the tables say can be made, by its rows of tables_1 -/
def lw_okq (q : MethodName × Nat) : Prop := (q.1.cls ≠ "java/lang/invoke/MethodHandle" ∧ q.1.cls ≠ "java/lang/invoke/VarHandle") ∧ Cond.instantiable q.1.cls q.2 ∈ tables_1 ∧ Cond.privateMethod q.1 ∈ tables_1 ∧ Cond.instanceMethod q.1 ∈ tables_1
theorem lw_p0 : lw_okq (⟨"WellControl$Column", "joinsNewest", "(I)Z"⟩, 6) := ⟨⟨by decide +kernel, by decide +kernel⟩, List.mem_of_getElem? (i := 21) (by decide +kernel), List.mem_of_getElem? (i := 65) (by decide +kernel), List.mem_of_getElem? (i := 66) (by decide +kernel)⟩
theorem lw_p1 : lw_okq (⟨"WellControl", "refuse", "(I)I"⟩, 5) := ⟨⟨by decide +kernel, by decide +kernel⟩, List.mem_of_getElem? (i := 7) (by decide +kernel), List.mem_of_getElem? (i := 157) (by decide +kernel), List.mem_of_getElem? (i := 158) (by decide +kernel)⟩
theorem lw_p2 : lw_okq (⟨"WellControl", "save", "()V"⟩, 5) := ⟨⟨by decide +kernel, by decide +kernel⟩, List.mem_of_getElem? (i := 7) (by decide +kernel), List.mem_of_getElem? (i := 161) (by decide +kernel), List.mem_of_getElem? (i := 162) (by decide +kernel)⟩
theorem lw_p3 : lw_okq (⟨"WellControl", "dropOldestSaved", "()V"⟩, 5) := ⟨⟨by decide +kernel, by decide +kernel⟩, List.mem_of_getElem? (i := 7) (by decide +kernel), List.mem_of_getElem? (i := 165) (by decide +kernel), List.mem_of_getElem? (i := 166) (by decide +kernel)⟩
theorem lw_p4 : lw_okq (⟨"WellControl$Column", "releaseOldest", "(I)I"⟩, 6) := ⟨⟨by decide +kernel, by decide +kernel⟩, List.mem_of_getElem? (i := 21) (by decide +kernel), List.mem_of_getElem? (i := 215) (by decide +kernel), List.mem_of_getElem? (i := 216) (by decide +kernel)⟩
theorem lw_p5 : lw_okq (⟨"WellControl", "layerError", "(II)I"⟩, 5) := ⟨⟨by decide +kernel, by decide +kernel⟩, List.mem_of_getElem? (i := 7) (by decide +kernel), List.mem_of_getElem? (i := 364) (by decide +kernel), List.mem_of_getElem? (i := 365) (by decide +kernel)⟩
theorem lw_p6 : lw_okq (⟨"WellControlModel", "fill", "()V"⟩, 6) := ⟨⟨by decide +kernel, by decide +kernel⟩, List.mem_of_getElem? (i := 424) (by decide +kernel), List.mem_of_getElem? (i := 430) (by decide +kernel), List.mem_of_getElem? (i := 431) (by decide +kernel)⟩
theorem lw_p7 : lw_okq (⟨"WellControlModel", "volumeOf", "(I)I"⟩, 6) := ⟨⟨by decide +kernel, by decide +kernel⟩, List.mem_of_getElem? (i := 424) (by decide +kernel), List.mem_of_getElem? (i := 437) (by decide +kernel), List.mem_of_getElem? (i := 438) (by decide +kernel)⟩
theorem lw_p8 : lw_okq (⟨"WellControlModel", "error", "(I)I"⟩, 6) := ⟨⟨by decide +kernel, by decide +kernel⟩, List.mem_of_getElem? (i := 424) (by decide +kernel), List.mem_of_getElem? (i := 470) (by decide +kernel), List.mem_of_getElem? (i := 471) (by decide +kernel)⟩
theorem lw_p9 : lw_okq (⟨"WellControlModel", "save", "()V"⟩, 6) := ⟨⟨by decide +kernel, by decide +kernel⟩, List.mem_of_getElem? (i := 424) (by decide +kernel), List.mem_of_getElem? (i := 474) (by decide +kernel), List.mem_of_getElem? (i := 475) (by decide +kernel)⟩
theorem lw_p10 : lw_okq (⟨"WellControlModel", "set", "(IIII)I"⟩, 6) := ⟨⟨by decide +kernel, by decide +kernel⟩, List.mem_of_getElem? (i := 424) (by decide +kernel), List.mem_of_getElem? (i := 485) (by decide +kernel), List.mem_of_getElem? (i := 486) (by decide +kernel)⟩
theorem lw_p11 : lw_okq (⟨"WellControlModel", "pumpMud", "(II)V"⟩, 6) := ⟨⟨by decide +kernel, by decide +kernel⟩, List.mem_of_getElem? (i := 424) (by decide +kernel), List.mem_of_getElem? (i := 506) (by decide +kernel), List.mem_of_getElem? (i := 507) (by decide +kernel)⟩
theorem lw_p12 : lw_okq (⟨"WellControlModel", "putOnTop", "(II)V"⟩, 6) := ⟨⟨by decide +kernel, by decide +kernel⟩, List.mem_of_getElem? (i := 424) (by decide +kernel), List.mem_of_getElem? (i := 510) (by decide +kernel), List.mem_of_getElem? (i := 511) (by decide +kernel)⟩
theorem lw_p13 : lw_okq (⟨"WellControlModel", "passOver", "(I)V"⟩, 6) := ⟨⟨by decide +kernel, by decide +kernel⟩, List.mem_of_getElem? (i := 424) (by decide +kernel), List.mem_of_getElem? (i := 514) (by decide +kernel), List.mem_of_getElem? (i := 515) (by decide +kernel)⟩
theorem lw_p14 : lw_okq (⟨"WellControlModel", "enter", "(II)V"⟩, 6) := ⟨⟨by decide +kernel, by decide +kernel⟩, List.mem_of_getElem? (i := 424) (by decide +kernel), List.mem_of_getElem? (i := 518) (by decide +kernel), List.mem_of_getElem? (i := 519) (by decide +kernel)⟩
theorem lw_p15 : lw_okq (⟨"WellControlModel", "leave", "(I)V"⟩, 6) := ⟨⟨by decide +kernel, by decide +kernel⟩, List.mem_of_getElem? (i := 424) (by decide +kernel), List.mem_of_getElem? (i := 522) (by decide +kernel), List.mem_of_getElem? (i := 523) (by decide +kernel)⟩
def lw_privs_1 : List (MethodName × Nat) := [(⟨"WellControl$Column", "joinsNewest", "(I)Z"⟩, 6), (⟨"WellControl", "refuse", "(I)I"⟩, 5), (⟨"WellControl", "save", "()V"⟩, 5), (⟨"WellControl", "dropOldestSaved", "()V"⟩, 5), (⟨"WellControl$Column", "releaseOldest", "(I)I"⟩, 6), (⟨"WellControl", "layerError", "(II)I"⟩, 5), (⟨"WellControlModel", "fill", "()V"⟩, 6), (⟨"WellControlModel", "volumeOf", "(I)I"⟩, 6), (⟨"WellControlModel", "error", "(I)I"⟩, 6), (⟨"WellControlModel", "save", "()V"⟩, 6), (⟨"WellControlModel", "set", "(IIII)I"⟩, 6), (⟨"WellControlModel", "pumpMud", "(II)V"⟩, 6), (⟨"WellControlModel", "putOnTop", "(II)V"⟩, 6), (⟨"WellControlModel", "passOver", "(I)V"⟩, 6), (⟨"WellControlModel", "enter", "(II)V"⟩, 6), (⟨"WellControlModel", "leave", "(I)V"⟩, 6)]
theorem lw_r1 : ∀ q ∈ lw_privs_1, lw_okq q := List.forall_mem_cons.mpr ⟨lw_p0, List.forall_mem_cons.mpr ⟨lw_p1, List.forall_mem_cons.mpr ⟨lw_p2, List.forall_mem_cons.mpr ⟨lw_p3, List.forall_mem_cons.mpr ⟨lw_p4, List.forall_mem_cons.mpr ⟨lw_p5, List.forall_mem_cons.mpr ⟨lw_p6, List.forall_mem_cons.mpr ⟨lw_p7, List.forall_mem_cons.mpr ⟨lw_p8, List.forall_mem_cons.mpr ⟨lw_p9, List.forall_mem_cons.mpr ⟨lw_p10, List.forall_mem_cons.mpr ⟨lw_p11, List.forall_mem_cons.mpr ⟨lw_p12, List.forall_mem_cons.mpr ⟨lw_p13, List.forall_mem_cons.mpr ⟨lw_p14, List.forall_mem_cons.mpr ⟨lw_p15, fun _ h => absurd h List.not_mem_nil⟩⟩⟩⟩⟩⟩⟩⟩⟩⟩⟩⟩⟩⟩⟩⟩
theorem lw_p16 : lw_okq (⟨"WellControlModel", "check", "()V"⟩, 6) := ⟨⟨by decide +kernel, by decide +kernel⟩, List.mem_of_getElem? (i := 424) (by decide +kernel), List.mem_of_getElem? (i := 526) (by decide +kernel), List.mem_of_getElem? (i := 527) (by decide +kernel)⟩
theorem lw_p17 : lw_okq (⟨"WellControlModel", "atShoe", "()I"⟩, 6) := ⟨⟨by decide +kernel, by decide +kernel⟩, List.mem_of_getElem? (i := 424) (by decide +kernel), List.mem_of_getElem? (i := 530) (by decide +kernel), List.mem_of_getElem? (i := 531) (by decide +kernel)⟩
theorem lw_p18 : lw_okq (⟨"WellControlModel", "lacking", "(I)I"⟩, 6) := ⟨⟨by decide +kernel, by decide +kernel⟩, List.mem_of_getElem? (i := 424) (by decide +kernel), List.mem_of_getElem? (i := 534) (by decide +kernel), List.mem_of_getElem? (i := 535) (by decide +kernel)⟩
theorem lw_p19 : lw_okq (⟨"WellControlModel", "pressureOf", "(II)I"⟩, 6) := ⟨⟨by decide +kernel, by decide +kernel⟩, List.mem_of_getElem? (i := 424) (by decide +kernel), List.mem_of_getElem? (i := 538) (by decide +kernel), List.mem_of_getElem? (i := 539) (by decide +kernel)⟩
theorem lw_p20 : lw_okq (⟨"WellControlModel", "leastDensity", "()I"⟩, 6) := ⟨⟨by decide +kernel, by decide +kernel⟩, List.mem_of_getElem? (i := 424) (by decide +kernel), List.mem_of_getElem? (i := 583) (by decide +kernel), List.mem_of_getElem? (i := 584) (by decide +kernel)⟩
theorem lw_p21 : lw_okq (⟨"WellControlModel", "pumpAll", "(IIII)I"⟩, 6) := ⟨⟨by decide +kernel, by decide +kernel⟩, List.mem_of_getElem? (i := 424) (by decide +kernel), List.mem_of_getElem? (i := 591) (by decide +kernel), List.mem_of_getElem? (i := 592) (by decide +kernel)⟩
theorem lw_p22 : lw_okq (⟨"WellControlModel", "ofLayer", "(III)I"⟩, 6) := ⟨⟨by decide +kernel, by decide +kernel⟩, List.mem_of_getElem? (i := 424) (by decide +kernel), List.mem_of_getElem? (i := 612) (by decide +kernel), List.mem_of_getElem? (i := 613) (by decide +kernel)⟩
theorem lw_p23 : lw_okq (⟨"WellControlModel", "mix", "(J)V"⟩, 6) := ⟨⟨by decide +kernel, by decide +kernel⟩, List.mem_of_getElem? (i := 424) (by decide +kernel), List.mem_of_getElem? (i := 645) (by decide +kernel), List.mem_of_getElem? (i := 646) (by decide +kernel)⟩
def lw_privs_2 : List (MethodName × Nat) := [(⟨"WellControlModel", "check", "()V"⟩, 6), (⟨"WellControlModel", "atShoe", "()I"⟩, 6), (⟨"WellControlModel", "lacking", "(I)I"⟩, 6), (⟨"WellControlModel", "pressureOf", "(II)I"⟩, 6), (⟨"WellControlModel", "leastDensity", "()I"⟩, 6), (⟨"WellControlModel", "pumpAll", "(IIII)I"⟩, 6), (⟨"WellControlModel", "ofLayer", "(III)I"⟩, 6), (⟨"WellControlModel", "mix", "(J)V"⟩, 6)]
theorem lw_r2 : ∀ q ∈ lw_privs_2, lw_okq q := List.forall_mem_cons.mpr ⟨lw_p16, List.forall_mem_cons.mpr ⟨lw_p17, List.forall_mem_cons.mpr ⟨lw_p18, List.forall_mem_cons.mpr ⟨lw_p19, List.forall_mem_cons.mpr ⟨lw_p20, List.forall_mem_cons.mpr ⟨lw_p21, List.forall_mem_cons.mpr ⟨lw_p22, List.forall_mem_cons.mpr ⟨lw_p23, fun _ h => absurd h List.not_mem_nil⟩⟩⟩⟩⟩⟩⟩⟩
def lw_privs : List (MethodName × Nat) := lw_privs_1 ++ (lw_privs_2)
def lw_tbl : List Cond := k2_sels lw_privs ++ tables_1
theorem lw_privs_ok : ∀ q ∈ lw_privs, lw_okq q := by
  show ∀ q ∈ lw_privs_1 ++ (lw_privs_2), lw_okq q
  exact List.forall_mem_append.mpr ⟨lw_r1, lw_r2⟩
end
section
/-! ===== BEGIN words of one list among another's, by their places ===== -/
theorem goodIn_r {big : List Cond} (ws : List Cond) (ps : List Nat) (hp : ws = ps.filterMap (fun i => big[i]?)) (h : ws.all goodWord = true) : GoodIn big ws := by
  intro w hw
  have h1 := List.all_eq_true.mp h w hw
  rw [hp] at hw
  obtain ⟨i, -, hi⟩ := List.mem_filterMap.mp hw
  have hm : w ∈ big := by first | exact List.mem_of_getElem? hi | exact List.getElem?_mem hi
  exact ⟨hm, good_of_word h1⟩
theorem goodIn_app {big a b : List Cond} (ha : GoodIn big a) (hb : GoodIn big b) : GoodIn big (a ++ b) := fun w h => (List.mem_append.mp h).elim (ha w) (hb w)
theorem goodIn_ca {big a b : List Cond} {c : Cond} (ha : GoodIn big (c :: a)) (hb : GoodIn big b) : GoodIn big (c :: (a ++ b)) := fun w h => (List.mem_cons.mp h).elim (fun e => ha w (List.mem_cons.mpr (Or.inl e))) (fun h => (List.mem_append.mp h).elim (fun h => ha w (List.mem_cons.mpr (Or.inr h))) (hb w))
theorem goodIn_sub {big ws : List Cond} (hm : ∀ w ∈ ws, w ∈ big) (h : ws.all goodWord = true) : GoodIn big ws := fun w hw => ⟨hm w hw, good_of_word (List.all_eq_true.mp h w hw)⟩
/-! ===== END ===== -/

/-! ===== BEGIN printed: names, fields, word lists, decode rows ===== -/
def RX0 : String := "WellControl$Column"
def TX0 : u_T := fun k => match k with
  | 0 => ("WellControl$Column", "filledFromTop", "Z", true)
  | 1 => ("WellControl$Column", "volumes", "[I", true)
  | 2 => ("WellControl$Column", "densities", "[I", true)
  | 3 => ("WellControl$Column", "oldest", "I", false)
  | 4 => ("WellControl$Column", "count", "I", false)
  | _ => ("WellControl$Column", "load", "J", false)
def tyX0 : Nat → FieldType := fun k => match k with
  | 0 => .boolean
  | 1 => .array .int
  | 2 => .array .int
  | 3 => .int
  | 4 => .int
  | _ => .long
abbrev wsX00 : List Cond := u_ws RX0 TX0 6
theorem nmX0 : ∀ a, a < 6 → ∀ b, b < 6 → a ≠ b → (TX0 a).2.1 ≠ (TX0 b).2.1 := by decide +kernel
theorem tyX0_ok : ∀ k, k < 6 → parseFieldDescriptor (TX0 k).2.2.1 = some (tyX0 k) := by decide +kernel
abbrev cX0_init : ByteArray := prog_2_method_1_code
def yX0_init : MethodName := ⟨RX0, "<init>", "(Z)V"⟩
abbrev cX0_clear : ByteArray := prog_2_method_2_code
def yX0_clear : MethodName := ⟨RX0, "clear", "()V"⟩
abbrev cX0_copyFrom : ByteArray := prog_2_method_3_code
def yX0_copyFrom : MethodName := ⟨RX0, "copyFrom", "(LWellControl$Column;)V"⟩
abbrev cX0_placeOfAge : ByteArray := prog_2_method_4_code
def yX0_placeOfAge : MethodName := ⟨RX0, "placeOfAge", "(I)I"⟩
abbrev cX0_placeOfIndex : ByteArray := prog_2_method_5_code
def yX0_placeOfIndex : MethodName := ⟨RX0, "placeOfIndex", "(I)I"⟩
abbrev cX0_volumeOf : ByteArray := prog_2_method_6_code
def yX0_volumeOf : MethodName := ⟨RX0, "volumeOf", "(I)I"⟩
abbrev cX0_densityOf : ByteArray := prog_2_method_7_code
def yX0_densityOf : MethodName := ⟨RX0, "densityOf", "(I)I"⟩
abbrev cX0_enter : ByteArray := prog_2_method_8_code
def yX0_enter : MethodName := ⟨RX0, "enter", "(II)V"⟩
abbrev cX0_joinsNewest : ByteArray := prog_2_method_9_code
def yX0_joinsNewest : MethodName := ⟨RX0, "joinsNewest", "(I)Z"⟩
abbrev cX0_release : ByteArray := prog_2_method_10_code
def yX0_release : MethodName := ⟨RX0, "release", "(I)V"⟩
abbrev cX0_releaseInto : ByteArray := prog_2_method_11_code
def yX0_releaseInto : MethodName := ⟨RX0, "releaseInto", "(LWellControl$Column;I)V"⟩
abbrev cX0_releaseOldest : ByteArray := prog_2_method_12_code
def yX0_releaseOldest : MethodName := ⟨RX0, "releaseOldest", "(I)I"⟩
abbrev cX0_loadAbove : ByteArray := prog_2_method_13_code
def yX0_loadAbove : MethodName := ⟨RX0, "loadAbove", "(I)J"⟩
abbrev cX0_mixedLayers : ByteArray := prog_2_method_14_code
def yX0_mixedLayers : MethodName := ⟨RX0, "mixedLayers", "(J)J"⟩
def RX1 : String := "WellControl$Well"
def TX1 : u_T := fun k => match k with
  | 0 => ("WellControl$Well", "depth", "I", false)
  | 1 => ("WellControl$Well", "pipeCapacity", "I", false)
  | 2 => ("WellControl$Well", "annulusCapacity", "I", false)
  | 3 => ("WellControl$Well", "shoe", "I", false)
  | 4 => ("WellControl$Well", "mud", "I", false)
  | 5 => ("WellControl$Well", "formation", "I", false)
  | 6 => ("WellControl$Well", "slowPump", "I", false)
  | 7 => ("WellControl$Well", "fracture", "I", false)
  | 8 => ("WellControl$Well", "gained", "I", false)
  | 9 => ("WellControl$Well", "timesBroken", "I", false)
  | 10 => ("WellControl$Well", "greatestAtShoe", "I", false)
  | 11 => ("WellControl$Well", "pipe", "LWellControl$Column;", true)
  | _ => ("WellControl$Well", "annulus", "LWellControl$Column;", true)
def tyX1 : Nat → FieldType := fun k => match k with
  | 0 => .int
  | 1 => .int
  | 2 => .int
  | 3 => .int
  | 4 => .int
  | 5 => .int
  | 6 => .int
  | 7 => .int
  | 8 => .int
  | 9 => .int
  | 10 => .int
  | 11 => .object "WellControl$Column"
  | _ => .object "WellControl$Column"
abbrev wsX10 : List Cond := u_ws RX1 TX1 13
theorem nmX1 : ∀ a, a < 13 → ∀ b, b < 13 → a ≠ b → (TX1 a).2.1 ≠ (TX1 b).2.1 := by decide +kernel
theorem tyX1_ok : ∀ k, k < 13 → parseFieldDescriptor (TX1 k).2.2.1 = some (tyX1 k) := by decide +kernel
abbrev cX1_init : ByteArray := prog_3_method_1_code
def yX1_init : MethodName := ⟨RX1, "<init>", "()V"⟩
abbrev cX1_startAnew : ByteArray := prog_3_method_2_code
def yX1_startAnew : MethodName := ⟨RX1, "startAnew", "()V"⟩
abbrev cX1_copyFrom : ByteArray := prog_3_method_3_code
def yX1_copyFrom : MethodName := ⟨RX1, "copyFrom", "(LWellControl$Well;)V"⟩
abbrev cX1_pipeVolume : ByteArray := prog_3_method_4_code
def yX1_pipeVolume : MethodName := ⟨RX1, "pipeVolume", "()I"⟩
abbrev cX1_annulusVolume : ByteArray := prog_3_method_5_code
def yX1_annulusVolume : MethodName := ⟨RX1, "annulusVolume", "()I"⟩
abbrev cX1_column : ByteArray := prog_3_method_6_code
def yX1_column : MethodName := ⟨RX1, "column", "(I)LWellControl$Column;"⟩
abbrev cX1_capacity : ByteArray := prog_3_method_7_code
def yX1_capacity : MethodName := ⟨RX1, "capacity", "(I)I"⟩
abbrev cX1_canCirculate : ByteArray := prog_3_method_8_code
def yX1_canCirculate : MethodName := ⟨RX1, "canCirculate", "(I)Z"⟩
abbrev cX1_circulate : ByteArray := prog_3_method_9_code
def yX1_circulate : MethodName := ⟨RX1, "circulate", "(II)V"⟩
abbrev cX1_circulateInSteps : ByteArray := prog_3_method_10_code
def yX1_circulateInSteps : MethodName := ⟨RX1, "circulateInSteps", "(III)V"⟩
abbrev cX1_letIn : ByteArray := prog_3_method_11_code
def yX1_letIn : MethodName := ⟨RX1, "letIn", "(II)V"⟩
abbrev cX1_checkShoe : ByteArray := prog_3_method_12_code
def yX1_checkShoe : MethodName := ⟨RX1, "checkShoe", "()V"⟩
abbrev cX1_pressureOfWhole : ByteArray := prog_3_method_13_code
def yX1_pressureOfWhole : MethodName := ⟨RX1, "pressureOfWhole", "(I)I"⟩
abbrev cX1_pressureOfPart : ByteArray := prog_3_method_14_code
def yX1_pressureOfPart : MethodName := ⟨RX1, "pressureOfPart", "(II)I"⟩
abbrev cX1_pressureOf : ByteArray := prog_3_method_15_code
def yX1_pressureOf : MethodName := ⟨RX1, "pressureOf", "(JI)I"⟩
abbrev cX1_pressureAtPipe : ByteArray := prog_3_method_16_code
def yX1_pressureAtPipe : MethodName := ⟨RX1, "pressureAtPipe", "()I"⟩
abbrev cX1_pressureAtCasing : ByteArray := prog_3_method_17_code
def yX1_pressureAtCasing : MethodName := ⟨RX1, "pressureAtCasing", "()I"⟩
abbrev cX1_pressureAtStandpipe : ByteArray := prog_3_method_18_code
def yX1_pressureAtStandpipe : MethodName := ⟨RX1, "pressureAtStandpipe", "()I"⟩
abbrev cX1_pressureAtShoe : ByteArray := prog_3_method_19_code
def yX1_pressureAtShoe : MethodName := ⟨RX1, "pressureAtShoe", "()I"⟩
abbrev cX1_densityToKill : ByteArray := prog_3_method_20_code
def yX1_densityToKill : MethodName := ⟨RX1, "densityToKill", "()I"⟩
abbrev cX1_mixedSettings : ByteArray := prog_3_method_21_code
def yX1_mixedSettings : MethodName := ⟨RX1, "mixedSettings", "(J)J"⟩
abbrev cX1_mixedReadings : ByteArray := prog_3_method_22_code
def yX1_mixedReadings : MethodName := ⟨RX1, "mixedReadings", "(J)J"⟩
def RX2 : String := "WellControl"
def TX2 : u_T := fun k => match k with
  | 0 => ("WellControl", "well", "LWellControl$Well;", false)
  | 1 => ("WellControl", "trial", "LWellControl$Well;", true)
  | 2 => ("WellControl", "saved", "[LWellControl$Well;", true)
  | 3 => ("WellControl", "savedCount", "I", false)
  | _ => ("WellControl", "errors", "[I", true)
def tyX2 : Nat → FieldType := fun k => match k with
  | 0 => .object "WellControl$Well"
  | 1 => .object "WellControl$Well"
  | 2 => .array (.object "WellControl$Well")
  | 3 => .int
  | _ => .array .int
abbrev wsX20 : List Cond := u_ws RX2 TX2 5
theorem nmX2 : ∀ a, a < 5 → ∀ b, b < 5 → a ≠ b → (TX2 a).2.1 ≠ (TX2 b).2.1 := by decide +kernel
theorem tyX2_ok : ∀ k, k < 5 → parseFieldDescriptor (TX2 k).2.2.1 = some (tyX2 k) := by decide +kernel
abbrev cX2_init : ByteArray := prog_1_method_1_code
def yX2_init : MethodName := ⟨RX2, "<init>", "()V"⟩
abbrev cX2_setGeometry : ByteArray := prog_1_method_2_code
def yX2_setGeometry : MethodName := ⟨RX2, "setGeometry", "(IIII)I"⟩
abbrev cX2_setMud : ByteArray := prog_1_method_3_code
def yX2_setMud : MethodName := ⟨RX2, "setMud", "(I)I"⟩
abbrev cX2_setFormation : ByteArray := prog_1_method_4_code
def yX2_setFormation : MethodName := ⟨RX2, "setFormation", "(I)I"⟩
abbrev cX2_setSlowPump : ByteArray := prog_1_method_5_code
def yX2_setSlowPump : MethodName := ⟨RX2, "setSlowPump", "(I)I"⟩
abbrev cX2_setFracture : ByteArray := prog_1_method_6_code
def yX2_setFracture : MethodName := ⟨RX2, "setFracture", "(I)I"⟩
abbrev cX2_pump : ByteArray := prog_1_method_7_code
def yX2_pump : MethodName := ⟨RX2, "pump", "(I)I"⟩
abbrev cX2_influx : ByteArray := prog_1_method_8_code
def yX2_influx : MethodName := ⟨RX2, "influx", "(II)I"⟩
abbrev cX2_hydrostatic : ByteArray := prog_1_method_9_code
def yX2_hydrostatic : MethodName := ⟨RX2, "hydrostatic", "(I)I"⟩
abbrev cX2_hydrostaticAbove : ByteArray := prog_1_method_10_code
def yX2_hydrostaticAbove : MethodName := ⟨RX2, "hydrostaticAbove", "(II)I"⟩
abbrev cX2_drillPipePressure : ByteArray := prog_1_method_11_code
def yX2_drillPipePressure : MethodName := ⟨RX2, "drillPipePressure", "()I"⟩
abbrev cX2_casingPressure : ByteArray := prog_1_method_12_code
def yX2_casingPressure : MethodName := ⟨RX2, "casingPressure", "()I"⟩
abbrev cX2_standpipePressure : ByteArray := prog_1_method_13_code
def yX2_standpipePressure : MethodName := ⟨RX2, "standpipePressure", "()I"⟩
abbrev cX2_shoePressure : ByteArray := prog_1_method_14_code
def yX2_shoePressure : MethodName := ⟨RX2, "shoePressure", "()I"⟩
abbrev cX2_allowedCasingPressure : ByteArray := prog_1_method_15_code
def yX2_allowedCasingPressure : MethodName := ⟨RX2, "allowedCasingPressure", "()I"⟩
abbrev cX2_killDensity : ByteArray := prog_1_method_16_code
def yX2_killDensity : MethodName := ⟨RX2, "killDensity", "()I"⟩
abbrev cX2_killShoePressure : ByteArray := prog_1_method_17_code
def yX2_killShoePressure : MethodName := ⟨RX2, "killShoePressure", "(II)I"⟩
abbrev cX2_schedule : ByteArray := prog_1_method_18_code
def yX2_schedule : MethodName := ⟨RX2, "schedule", "(I)I"⟩
abbrev cX2_strokesToBit : ByteArray := prog_1_method_19_code
def yX2_strokesToBit : MethodName := ⟨RX2, "strokesToBit", "(I)I"⟩
abbrev cX2_layers : ByteArray := prog_1_method_20_code
def yX2_layers : MethodName := ⟨RX2, "layers", "(I)I"⟩
abbrev cX2_layerVolume : ByteArray := prog_1_method_21_code
def yX2_layerVolume : MethodName := ⟨RX2, "layerVolume", "(II)I"⟩
abbrev cX2_layerDensity : ByteArray := prog_1_method_22_code
def yX2_layerDensity : MethodName := ⟨RX2, "layerDensity", "(II)I"⟩
abbrev cX2_gain : ByteArray := prog_1_method_23_code
def yX2_gain : MethodName := ⟨RX2, "gain", "()I"⟩
abbrev cX2_breaks : ByteArray := prog_1_method_24_code
def yX2_breaks : MethodName := ⟨RX2, "breaks", "()I"⟩
abbrev cX2_greatestShoePressure : ByteArray := prog_1_method_25_code
def yX2_greatestShoePressure : MethodName := ⟨RX2, "greatestShoePressure", "()I"⟩
abbrev cX2_undo : ByteArray := prog_1_method_26_code
def yX2_undo : MethodName := ⟨RX2, "undo", "()I"⟩
abbrev cX2_errorCount : ByteArray := prog_1_method_27_code
def yX2_errorCount : MethodName := ⟨RX2, "errorCount", "(I)I"⟩
abbrev cX2_digest : ByteArray := prog_1_method_28_code
def yX2_digest : MethodName := ⟨RX2, "digest", "()J"⟩
abbrev cX2_within : ByteArray := prog_1_method_29_code
def yX2_within : MethodName := ⟨RX2, "within", "(III)Z"⟩
abbrev cX2_mixed : ByteArray := prog_1_method_30_code
def yX2_mixed : MethodName := ⟨RX2, "mixed", "(JJ)J"⟩
abbrev cX2_portionsFor : ByteArray := prog_1_method_31_code
def yX2_portionsFor : MethodName := ⟨RX2, "portionsFor", "(II)I"⟩
abbrev cX2_layerError : ByteArray := prog_1_method_32_code
def yX2_layerError : MethodName := ⟨RX2, "layerError", "(II)I"⟩
abbrev cX2_refuse : ByteArray := prog_1_method_33_code
def yX2_refuse : MethodName := ⟨RX2, "refuse", "(I)I"⟩
abbrev cX2_save : ByteArray := prog_1_method_34_code
def yX2_save : MethodName := ⟨RX2, "save", "()V"⟩
abbrev cX2_dropOldestSaved : ByteArray := prog_1_method_35_code
def yX2_dropOldestSaved : MethodName := ⟨RX2, "dropOldestSaved", "()V"⟩
def RX3 : String := "WellControlModel"
def TX3 : u_T := fun k => match k with
  | 0 => ("WellControlModel", "now", "[I", true)
  | 1 => ("WellControlModel", "aside", "[I", true)
  | 2 => ("WellControlModel", "past", "[I", true)
  | 3 => ("WellControlModel", "states", "I", false)
  | 4 => ("WellControlModel", "errors", "[I", true)
  | _ => ("WellControlModel", "hash", "J", false)
def tyX3 : Nat → FieldType := fun k => match k with
  | 0 => .array .int
  | 1 => .array .int
  | 2 => .array .int
  | 3 => .int
  | 4 => .array .int
  | _ => .long
abbrev wsX30 : List Cond := u_ws RX3 TX3 6
theorem nmX3 : ∀ a, a < 6 → ∀ b, b < 6 → a ≠ b → (TX3 a).2.1 ≠ (TX3 b).2.1 := by decide +kernel
theorem tyX3_ok : ∀ k, k < 6 → parseFieldDescriptor (TX3 k).2.2.1 = some (tyX3 k) := by decide +kernel
abbrev cX3_init : ByteArray := prog_5_method_1_code
def yX3_init : MethodName := ⟨RX3, "<init>", "()V"⟩
abbrev cX3_in : ByteArray := prog_5_method_3_code
def yX3_in : MethodName := ⟨RX3, "in", "(III)Z"⟩
abbrev cX3_error : ByteArray := prog_5_method_4_code
def yX3_error : MethodName := ⟨RX3, "error", "(I)I"⟩
abbrev cX3_copy : ByteArray := prog_5_method_5_code
def yX3_copy : MethodName := ⟨RX3, "copy", "([II[II)V"⟩
abbrev cX3_save : ByteArray := prog_5_method_6_code
def yX3_save : MethodName := ⟨RX3, "save", "()V"⟩
abbrev cX3_volumeAt : ByteArray := prog_5_method_7_code
def yX3_volumeAt : MethodName := ⟨RX3, "volumeAt", "(II)I"⟩
abbrev cX3_densityAt : ByteArray := prog_5_method_8_code
def yX3_densityAt : MethodName := ⟨RX3, "densityAt", "(II)I"⟩
abbrev cX3_volumeOf : ByteArray := prog_5_method_9_code
def yX3_volumeOf : MethodName := ⟨RX3, "volumeOf", "(I)I"⟩
abbrev cX3_fill : ByteArray := prog_5_method_10_code
def yX3_fill : MethodName := ⟨RX3, "fill", "()V"⟩
abbrev cX3_putOnTop : ByteArray := prog_5_method_11_code
def yX3_putOnTop : MethodName := ⟨RX3, "putOnTop", "(II)V"⟩
abbrev cX3_enter : ByteArray := prog_5_method_12_code
def yX3_enter : MethodName := ⟨RX3, "enter", "(II)V"⟩
abbrev cX3_passOver : ByteArray := prog_5_method_13_code
def yX3_passOver : MethodName := ⟨RX3, "passOver", "(I)V"⟩
abbrev cX3_leave : ByteArray := prog_5_method_14_code
def yX3_leave : MethodName := ⟨RX3, "leave", "(I)V"⟩
abbrev cX3_pumpMud : ByteArray := prog_5_method_15_code
def yX3_pumpMud : MethodName := ⟨RX3, "pumpMud", "(II)V"⟩
abbrev cX3_pressureOf : ByteArray := prog_5_method_16_code
def yX3_pressureOf : MethodName := ⟨RX3, "pressureOf", "(II)I"⟩
abbrev cX3_lacking : ByteArray := prog_5_method_17_code
def yX3_lacking : MethodName := ⟨RX3, "lacking", "(I)I"⟩
abbrev cX3_atShoe : ByteArray := prog_5_method_18_code
def yX3_atShoe : MethodName := ⟨RX3, "atShoe", "()I"⟩
abbrev cX3_check : ByteArray := prog_5_method_19_code
def yX3_check : MethodName := ⟨RX3, "check", "()V"⟩
abbrev cX3_setGeometry : ByteArray := prog_5_method_20_code
def yX3_setGeometry : MethodName := ⟨RX3, "setGeometry", "(IIII)I"⟩
abbrev cX3_set : ByteArray := prog_5_method_21_code
def yX3_set : MethodName := ⟨RX3, "set", "(IIII)I"⟩
abbrev cX3_setMud : ByteArray := prog_5_method_22_code
def yX3_setMud : MethodName := ⟨RX3, "setMud", "(I)I"⟩
abbrev cX3_setFormation : ByteArray := prog_5_method_23_code
def yX3_setFormation : MethodName := ⟨RX3, "setFormation", "(I)I"⟩
abbrev cX3_setSlowPump : ByteArray := prog_5_method_24_code
def yX3_setSlowPump : MethodName := ⟨RX3, "setSlowPump", "(I)I"⟩
abbrev cX3_setFracture : ByteArray := prog_5_method_25_code
def yX3_setFracture : MethodName := ⟨RX3, "setFracture", "(I)I"⟩
abbrev cX3_pump : ByteArray := prog_5_method_26_code
def yX3_pump : MethodName := ⟨RX3, "pump", "(I)I"⟩
abbrev cX3_influx : ByteArray := prog_5_method_27_code
def yX3_influx : MethodName := ⟨RX3, "influx", "(II)I"⟩
abbrev cX3_isColumn : ByteArray := prog_5_method_28_code
def yX3_isColumn : MethodName := ⟨RX3, "isColumn", "(I)Z"⟩
abbrev cX3_hydrostatic : ByteArray := prog_5_method_29_code
def yX3_hydrostatic : MethodName := ⟨RX3, "hydrostatic", "(I)I"⟩
abbrev cX3_hydrostaticAbove : ByteArray := prog_5_method_30_code
def yX3_hydrostaticAbove : MethodName := ⟨RX3, "hydrostaticAbove", "(II)I"⟩
abbrev cX3_drillPipePressure : ByteArray := prog_5_method_31_code
def yX3_drillPipePressure : MethodName := ⟨RX3, "drillPipePressure", "()I"⟩
abbrev cX3_casingPressure : ByteArray := prog_5_method_32_code
def yX3_casingPressure : MethodName := ⟨RX3, "casingPressure", "()I"⟩
abbrev cX3_standpipePressure : ByteArray := prog_5_method_33_code
def yX3_standpipePressure : MethodName := ⟨RX3, "standpipePressure", "()I"⟩
abbrev cX3_shoePressure : ByteArray := prog_5_method_34_code
def yX3_shoePressure : MethodName := ⟨RX3, "shoePressure", "()I"⟩
abbrev cX3_allowedCasingPressure : ByteArray := prog_5_method_35_code
def yX3_allowedCasingPressure : MethodName := ⟨RX3, "allowedCasingPressure", "()I"⟩
abbrev cX3_leastDensity : ByteArray := prog_5_method_36_code
def yX3_leastDensity : MethodName := ⟨RX3, "leastDensity", "()I"⟩
abbrev cX3_killDensity : ByteArray := prog_5_method_37_code
def yX3_killDensity : MethodName := ⟨RX3, "killDensity", "()I"⟩
abbrev cX3_pumpAll : ByteArray := prog_5_method_38_code
def yX3_pumpAll : MethodName := ⟨RX3, "pumpAll", "(IIII)I"⟩
abbrev cX3_killShoePressure : ByteArray := prog_5_method_39_code
def yX3_killShoePressure : MethodName := ⟨RX3, "killShoePressure", "(II)I"⟩
abbrev cX3_schedule : ByteArray := prog_5_method_40_code
def yX3_schedule : MethodName := ⟨RX3, "schedule", "(I)I"⟩
abbrev cX3_strokesToBit : ByteArray := prog_5_method_41_code
def yX3_strokesToBit : MethodName := ⟨RX3, "strokesToBit", "(I)I"⟩
abbrev cX3_layers : ByteArray := prog_5_method_42_code
def yX3_layers : MethodName := ⟨RX3, "layers", "(I)I"⟩
abbrev cX3_ofLayer : ByteArray := prog_5_method_43_code
def yX3_ofLayer : MethodName := ⟨RX3, "ofLayer", "(III)I"⟩
abbrev cX3_layerVolume : ByteArray := prog_5_method_44_code
def yX3_layerVolume : MethodName := ⟨RX3, "layerVolume", "(II)I"⟩
abbrev cX3_layerDensity : ByteArray := prog_5_method_45_code
def yX3_layerDensity : MethodName := ⟨RX3, "layerDensity", "(II)I"⟩
abbrev cX3_gain : ByteArray := prog_5_method_46_code
def yX3_gain : MethodName := ⟨RX3, "gain", "()I"⟩
abbrev cX3_breaks : ByteArray := prog_5_method_47_code
def yX3_breaks : MethodName := ⟨RX3, "breaks", "()I"⟩
abbrev cX3_greatestShoePressure : ByteArray := prog_5_method_48_code
def yX3_greatestShoePressure : MethodName := ⟨RX3, "greatestShoePressure", "()I"⟩
abbrev cX3_undo : ByteArray := prog_5_method_49_code
def yX3_undo : MethodName := ⟨RX3, "undo", "()I"⟩
abbrev cX3_errorCount : ByteArray := prog_5_method_50_code
def yX3_errorCount : MethodName := ⟨RX3, "errorCount", "(I)I"⟩
abbrev cX3_mix : ByteArray := prog_5_method_51_code
def yX3_mix : MethodName := ⟨RX3, "mix", "(J)V"⟩
abbrev cX3_digest : ByteArray := prog_5_method_52_code
def yX3_digest : MethodName := ⟨RX3, "digest", "()J"⟩
def RJ9 : String := "java/lang/Math"
def TJ9 : u_T := fun k => match k with
  | _ => ("", "", "", false)
def tyJ9 : Nat → FieldType := fun k => match k with
  | _ => .int
abbrev wsJ90 : List Cond := u_ws RJ9 TJ9 0
theorem nmJ9 : ∀ a, a < 0 → ∀ b, b < 0 → a ≠ b → (TJ9 a).2.1 ≠ (TJ9 b).2.1 := by decide +kernel
theorem tyJ9_ok : ∀ k, k < 0 → parseFieldDescriptor (TJ9 k).2.2.1 = some (tyJ9 k) := by decide +kernel
abbrev cJ9_floorMod_7cf53 : ByteArray := prog_6_method_50_code
def yJ9_floorMod_7cf53 : MethodName := ⟨RJ9, "floorMod", "(II)I"⟩
abbrev cJ9_max_7cf53 : ByteArray := prog_6_method_65_code
def yJ9_max_7cf53 : MethodName := ⟨RJ9, "max", "(II)I"⟩
abbrev cJ9_max_f86c9 : ByteArray := prog_6_method_66_code
def yJ9_max_f86c9 : MethodName := ⟨RJ9, "max", "(JJ)J"⟩
abbrev cJ9_min_7cf53 : ByteArray := prog_6_method_69_code
def yJ9_min_7cf53 : MethodName := ⟨RJ9, "min", "(II)I"⟩
def RL : String := "WellControlLaw"
abbrev cL_law : ByteArray := code
def yL_law : MethodName := ⟨RL, "law", "([I)Z"⟩
def wsX0_init : List Cond := .code yX0_init cX0_init 2 none :: ([.methodLink RX0 3 objectInit, .instanceMethod objectInit, .code objectInit ⟨#[0xb1]⟩ 1 none, .arrayClass .int, .fieldLink RX0 9 "WellControl$Column" "volumes" "[I", .fieldLink RX0 15 "WellControl$Column" "densities" "[I", .fieldLink RX0 18 "WellControl$Column" "filledFromTop" "Z"] ++ wsX00)
def wsX0_clear : List Cond := .code yX0_clear cX0_clear 1 none :: ([.fieldLink RX0 22 "WellControl$Column" "oldest" "I", .fieldLink RX0 26 "WellControl$Column" "count" "I", .fieldLink RX0 29 "WellControl$Column" "load" "J"] ++ wsX00)
def wsJ9_floorMod_7cf53 : List Cond := .code yJ9_floorMod_7cf53 cJ9_floorMod_7cf53 3 (some .int) :: ([])
def wsX0_placeOfAge : List Cond := .code yX0_placeOfAge cX0_placeOfAge 2 (some .int) :: ([.fieldLink RX0 22 "WellControl$Column" "oldest" "I", .methodLink RX0 44 yJ9_floorMod_7cf53, .static yJ9_floorMod_7cf53, .initialized RJ9, .code yJ9_floorMod_7cf53 cJ9_floorMod_7cf53 3 (some .int)] ++ wsX00)
def wsX0_joinsNewest : List Cond := .code yX0_joinsNewest cX0_joinsNewest 2 (some .boolean) :: ([.fieldLink RX0 26 "WellControl$Column" "count" "I", .fieldLink RX0 15 "WellControl$Column" "densities" "[I", .methodLink RX0 36 yX0_placeOfAge, .instanceMethod yX0_placeOfAge, .selects RX0 yX0_placeOfAge yX0_placeOfAge, .initialized RX0, .code yX0_placeOfAge cX0_placeOfAge 2 (some .int), .fieldLink RX0 22 "WellControl$Column" "oldest" "I", .methodLink RX0 44 yJ9_floorMod_7cf53, .static yJ9_floorMod_7cf53, .initialized RJ9, .code yJ9_floorMod_7cf53 cJ9_floorMod_7cf53 3 (some .int)] ++ wsX00)
def wsX0_enter : List Cond := .code yX0_enter cX0_enter 4 none :: ([.fieldLink RX0 26 "WellControl$Column" "count" "I", .fieldLink RX0 9 "WellControl$Column" "volumes" "[I", .fieldLink RX0 15 "WellControl$Column" "densities" "[I", .fieldLink RX0 29 "WellControl$Column" "load" "J", .methodLink RX0 53 yX0_joinsNewest, .instanceMethod yX0_joinsNewest, .selects RX0 yX0_joinsNewest yX0_joinsNewest, .initialized RX0, .code yX0_joinsNewest cX0_joinsNewest 2 (some .boolean), .methodLink RX0 36 yX0_placeOfAge, .instanceMethod yX0_placeOfAge, .selects RX0 yX0_placeOfAge yX0_placeOfAge, .code yX0_placeOfAge cX0_placeOfAge 2 (some .int), .fieldLink RX0 22 "WellControl$Column" "oldest" "I", .methodLink RX0 44 yJ9_floorMod_7cf53, .static yJ9_floorMod_7cf53, .initialized RJ9, .code yJ9_floorMod_7cf53 cJ9_floorMod_7cf53 3 (some .int)] ++ wsX00)
def wsX0_copyFrom_r1 : List Cond := [Cond.fieldLink RX0 26 "WellControl$Column" "count" "I", Cond.fieldLink RX0 9 "WellControl$Column" "volumes" "[I", Cond.fieldLink RX0 15 "WellControl$Column" "densities" "[I", Cond.methodLink RX0 33 yX0_clear, Cond.instanceMethod yX0_clear, Cond.selects RX0 yX0_clear yX0_clear, Cond.initialized RX0, Cond.code yX0_clear cX0_clear 1 none, Cond.fieldLink RX0 22 "WellControl$Column" "oldest" "I", Cond.fieldLink RX0 29 "WellControl$Column" "load" "J", Cond.methodLink RX0 36 yX0_placeOfAge, Cond.instanceMethod yX0_placeOfAge, Cond.selects RX0 yX0_placeOfAge yX0_placeOfAge, Cond.code yX0_placeOfAge cX0_placeOfAge 2 (some .int), Cond.methodLink RX0 44 yJ9_floorMod_7cf53, Cond.static yJ9_floorMod_7cf53, Cond.initialized RJ9, Cond.code yJ9_floorMod_7cf53 cJ9_floorMod_7cf53 3 (some .int), Cond.methodLink RX0 40 yX0_enter, Cond.instanceMethod yX0_enter, Cond.selects RX0 yX0_enter yX0_enter, Cond.code yX0_enter cX0_enter 4 none, Cond.methodLink RX0 53 yX0_joinsNewest, Cond.instanceMethod yX0_joinsNewest]
def wsX0_copyFrom_r2 : List Cond := [Cond.selects RX0 yX0_joinsNewest yX0_joinsNewest, Cond.code yX0_joinsNewest cX0_joinsNewest 2 (some .boolean)]
def wsX0_copyFrom : List Cond := .code yX0_copyFrom cX0_copyFrom 4 none :: ((wsX0_copyFrom_r1 ++ wsX0_copyFrom_r2) ++ wsX00)
def wsX0_placeOfIndex : List Cond := .code yX0_placeOfIndex cX0_placeOfIndex 3 (some .int) :: ([.fieldLink RX0 18 "WellControl$Column" "filledFromTop" "Z", .fieldLink RX0 26 "WellControl$Column" "count" "I", .fieldLink RX0 22 "WellControl$Column" "oldest" "I", .methodLink RX0 44 yJ9_floorMod_7cf53, .static yJ9_floorMod_7cf53, .initialized RJ9, .code yJ9_floorMod_7cf53 cJ9_floorMod_7cf53 3 (some .int)] ++ wsX00)
def wsX0_volumeOf : List Cond := .code yX0_volumeOf cX0_volumeOf 2 (some .int) :: ([.fieldLink RX0 9 "WellControl$Column" "volumes" "[I", .methodLink RX0 50 yX0_placeOfIndex, .instanceMethod yX0_placeOfIndex, .selects RX0 yX0_placeOfIndex yX0_placeOfIndex, .initialized RX0, .code yX0_placeOfIndex cX0_placeOfIndex 3 (some .int), .fieldLink RX0 18 "WellControl$Column" "filledFromTop" "Z", .fieldLink RX0 26 "WellControl$Column" "count" "I", .fieldLink RX0 22 "WellControl$Column" "oldest" "I", .methodLink RX0 44 yJ9_floorMod_7cf53, .static yJ9_floorMod_7cf53, .initialized RJ9, .code yJ9_floorMod_7cf53 cJ9_floorMod_7cf53 3 (some .int)] ++ wsX00)
def wsX0_densityOf : List Cond := .code yX0_densityOf cX0_densityOf 2 (some .int) :: ([.fieldLink RX0 15 "WellControl$Column" "densities" "[I", .methodLink RX0 50 yX0_placeOfIndex, .instanceMethod yX0_placeOfIndex, .selects RX0 yX0_placeOfIndex yX0_placeOfIndex, .initialized RX0, .code yX0_placeOfIndex cX0_placeOfIndex 3 (some .int), .fieldLink RX0 18 "WellControl$Column" "filledFromTop" "Z", .fieldLink RX0 26 "WellControl$Column" "count" "I", .fieldLink RX0 22 "WellControl$Column" "oldest" "I", .methodLink RX0 44 yJ9_floorMod_7cf53, .static yJ9_floorMod_7cf53, .initialized RJ9, .code yJ9_floorMod_7cf53 cJ9_floorMod_7cf53 3 (some .int)] ++ wsX00)
def wsX0_releaseOldest : List Cond := .code yX0_releaseOldest cX0_releaseOldest 4 (some .int) :: ([.fieldLink RX0 9 "WellControl$Column" "volumes" "[I", .methodLink RX0 60 Lib.Math.min.name, .static Lib.Math.min.name, .initialized "java/lang/Math", .code Lib.Math.min.name Lib.Math.min.code 2 (some .int), .fieldLink RX0 29 "WellControl$Column" "load" "J", .fieldLink RX0 15 "WellControl$Column" "densities" "[I", .fieldLink RX0 22 "WellControl$Column" "oldest" "I", .fieldLink RX0 26 "WellControl$Column" "count" "I", .methodLink RX0 36 yX0_placeOfAge, .instanceMethod yX0_placeOfAge, .selects RX0 yX0_placeOfAge yX0_placeOfAge, .initialized RX0, .code yX0_placeOfAge cX0_placeOfAge 2 (some .int), .methodLink RX0 44 yJ9_floorMod_7cf53, .static yJ9_floorMod_7cf53, .initialized RJ9, .code yJ9_floorMod_7cf53 cJ9_floorMod_7cf53 3 (some .int)] ++ wsX00)
def wsX0_release : List Cond := .code yX0_release cX0_release 4 none :: ([.fieldLink RX0 26 "WellControl$Column" "count" "I", .methodLink RX0 57 yX0_releaseOldest, .instanceMethod yX0_releaseOldest, .selects RX0 yX0_releaseOldest yX0_releaseOldest, .initialized RX0, .code yX0_releaseOldest cX0_releaseOldest 4 (some .int), .fieldLink RX0 9 "WellControl$Column" "volumes" "[I", .methodLink RX0 60 Lib.Math.min.name, .static Lib.Math.min.name, .initialized "java/lang/Math", .code Lib.Math.min.name Lib.Math.min.code 2 (some .int), .fieldLink RX0 29 "WellControl$Column" "load" "J", .fieldLink RX0 15 "WellControl$Column" "densities" "[I", .fieldLink RX0 22 "WellControl$Column" "oldest" "I", .methodLink RX0 36 yX0_placeOfAge, .instanceMethod yX0_placeOfAge, .selects RX0 yX0_placeOfAge yX0_placeOfAge, .code yX0_placeOfAge cX0_placeOfAge 2 (some .int), .methodLink RX0 44 yJ9_floorMod_7cf53, .static yJ9_floorMod_7cf53, .initialized RJ9, .code yJ9_floorMod_7cf53 cJ9_floorMod_7cf53 3 (some .int)] ++ wsX00)
def wsX0_releaseInto_r1 : List Cond := [Cond.fieldLink RX0 26 "WellControl$Column" "count" "I", Cond.fieldLink RX0 15 "WellControl$Column" "densities" "[I", Cond.methodLink RX0 36 yX0_placeOfAge, Cond.instanceMethod yX0_placeOfAge, Cond.selects RX0 yX0_placeOfAge yX0_placeOfAge, Cond.initialized RX0, Cond.code yX0_placeOfAge cX0_placeOfAge 2 (some .int), Cond.fieldLink RX0 22 "WellControl$Column" "oldest" "I", Cond.methodLink RX0 44 yJ9_floorMod_7cf53, Cond.static yJ9_floorMod_7cf53, Cond.initialized RJ9, Cond.code yJ9_floorMod_7cf53 cJ9_floorMod_7cf53 3 (some .int), Cond.methodLink RX0 57 yX0_releaseOldest, Cond.instanceMethod yX0_releaseOldest, Cond.selects RX0 yX0_releaseOldest yX0_releaseOldest, Cond.code yX0_releaseOldest cX0_releaseOldest 4 (some .int), Cond.fieldLink RX0 9 "WellControl$Column" "volumes" "[I", Cond.methodLink RX0 60 Lib.Math.min.name, Cond.static Lib.Math.min.name, Cond.initialized "java/lang/Math", Cond.code Lib.Math.min.name Lib.Math.min.code 2 (some .int), Cond.fieldLink RX0 29 "WellControl$Column" "load" "J", Cond.methodLink RX0 40 yX0_enter, Cond.instanceMethod yX0_enter]
def wsX0_releaseInto_r2 : List Cond := [Cond.selects RX0 yX0_enter yX0_enter, Cond.code yX0_enter cX0_enter 4 none, Cond.methodLink RX0 53 yX0_joinsNewest, Cond.instanceMethod yX0_joinsNewest, Cond.selects RX0 yX0_joinsNewest yX0_joinsNewest, Cond.code yX0_joinsNewest cX0_joinsNewest 2 (some .boolean)]
def wsX0_releaseInto : List Cond := .code yX0_releaseInto cX0_releaseInto 7 none :: ((wsX0_releaseInto_r1 ++ wsX0_releaseInto_r2) ++ wsX00)
def wsX0_loadAbove : List Cond := .code yX0_loadAbove cX0_loadAbove 8 (some .long) :: ([.fieldLink RX0 26 "WellControl$Column" "count" "I", .fieldLink RX0 9 "WellControl$Column" "volumes" "[I", .methodLink RX0 60 Lib.Math.min.name, .static Lib.Math.min.name, .initialized "java/lang/Math", .code Lib.Math.min.name Lib.Math.min.code 2 (some .int), .fieldLink RX0 15 "WellControl$Column" "densities" "[I", .methodLink RX0 50 yX0_placeOfIndex, .instanceMethod yX0_placeOfIndex, .selects RX0 yX0_placeOfIndex yX0_placeOfIndex, .initialized RX0, .code yX0_placeOfIndex cX0_placeOfIndex 3 (some .int), .fieldLink RX0 18 "WellControl$Column" "filledFromTop" "Z", .fieldLink RX0 22 "WellControl$Column" "oldest" "I", .methodLink RX0 44 yJ9_floorMod_7cf53, .static yJ9_floorMod_7cf53, .initialized RJ9, .code yJ9_floorMod_7cf53 cJ9_floorMod_7cf53 3 (some .int)] ++ wsX00)
def wsX2_mixed : List Cond := .code yX2_mixed cX2_mixed 4 (some .long) :: ([.constantLong RX2 181 (31)])
def wsX0_mixedLayers : List Cond := .code yX0_mixedLayers cX0_mixedLayers 5 (some .long) :: ([.fieldLink RX0 26 "WellControl$Column" "count" "I", .fieldLink RX0 9 "WellControl$Column" "volumes" "[I", .fieldLink RX0 15 "WellControl$Column" "densities" "[I", .static yX2_mixed, .initialized RX2, .code yX2_mixed cX2_mixed 4 (some .long), .constantLong RX2 181 (31), .methodLink RX0 50 yX0_placeOfIndex, .instanceMethod yX0_placeOfIndex, .selects RX0 yX0_placeOfIndex yX0_placeOfIndex, .initialized RX0, .code yX0_placeOfIndex cX0_placeOfIndex 3 (some .int), .fieldLink RX0 18 "WellControl$Column" "filledFromTop" "Z", .fieldLink RX0 22 "WellControl$Column" "oldest" "I", .methodLink RX0 44 yJ9_floorMod_7cf53, .static yJ9_floorMod_7cf53, .initialized RJ9, .code yJ9_floorMod_7cf53 cJ9_floorMod_7cf53 3 (some .int)] ++ wsX00)
def wsX1_pipeVolume : List Cond := .code yX1_pipeVolume cX1_pipeVolume 1 (some .int) :: ([.fieldLink RX1 9 "WellControl$Well" "depth" "I", .fieldLink RX1 15 "WellControl$Well" "pipeCapacity" "I"] ++ wsX10)
def wsX1_annulusVolume : List Cond := .code yX1_annulusVolume cX1_annulusVolume 1 (some .int) :: ([.fieldLink RX1 9 "WellControl$Well" "depth" "I", .fieldLink RX1 18 "WellControl$Well" "annulusCapacity" "I"] ++ wsX10)
def wsX1_startAnew_r1 : List Cond := [Cond.fieldLink RX1 41 "WellControl$Well" "pipe" "LWellControl$Column;", Cond.fieldLink RX1 24 "WellControl$Well" "mud" "I", Cond.fieldLink RX1 45 "WellControl$Well" "annulus" "LWellControl$Column;", Cond.fieldLink RX1 65 "WellControl$Well" "gained" "I", Cond.fieldLink RX1 68 "WellControl$Well" "timesBroken" "I", Cond.fieldLink RX1 71 "WellControl$Well" "greatestAtShoe" "I", Cond.methodLink RX1 51 yX0_clear, Cond.instanceMethod yX0_clear, Cond.selects RX0 yX0_clear yX0_clear, Cond.initialized RX0, Cond.code yX0_clear cX0_clear 1 none, Cond.fieldLink RX0 22 "WellControl$Column" "oldest" "I", Cond.fieldLink RX0 26 "WellControl$Column" "count" "I", Cond.fieldLink RX0 29 "WellControl$Column" "load" "J", Cond.methodLink RX1 54 yX1_pipeVolume, Cond.instanceMethod yX1_pipeVolume, Cond.selects RX1 yX1_pipeVolume yX1_pipeVolume, Cond.initialized RX1, Cond.code yX1_pipeVolume cX1_pipeVolume 1 (some .int), Cond.fieldLink RX1 9 "WellControl$Well" "depth" "I", Cond.fieldLink RX1 15 "WellControl$Well" "pipeCapacity" "I", Cond.methodLink RX1 58 yX0_enter, Cond.instanceMethod yX0_enter, Cond.selects RX0 yX0_enter yX0_enter]
def wsX1_startAnew_r2 : List Cond := [Cond.code yX0_enter cX0_enter 4 none, Cond.fieldLink RX0 9 "WellControl$Column" "volumes" "[I", Cond.fieldLink RX0 15 "WellControl$Column" "densities" "[I", Cond.methodLink RX0 53 yX0_joinsNewest, Cond.instanceMethod yX0_joinsNewest, Cond.selects RX0 yX0_joinsNewest yX0_joinsNewest, Cond.code yX0_joinsNewest cX0_joinsNewest 2 (some .boolean), Cond.methodLink RX0 36 yX0_placeOfAge, Cond.instanceMethod yX0_placeOfAge, Cond.selects RX0 yX0_placeOfAge yX0_placeOfAge, Cond.code yX0_placeOfAge cX0_placeOfAge 2 (some .int), Cond.methodLink RX0 44 yJ9_floorMod_7cf53, Cond.static yJ9_floorMod_7cf53, Cond.initialized RJ9, Cond.code yJ9_floorMod_7cf53 cJ9_floorMod_7cf53 3 (some .int), Cond.methodLink RX1 62 yX1_annulusVolume, Cond.instanceMethod yX1_annulusVolume, Cond.selects RX1 yX1_annulusVolume yX1_annulusVolume, Cond.code yX1_annulusVolume cX1_annulusVolume 1 (some .int), Cond.fieldLink RX1 18 "WellControl$Well" "annulusCapacity" "I"]
def wsX1_startAnew : List Cond := .code yX1_startAnew cX1_startAnew 1 none :: ((wsX1_startAnew_r1 ++ wsX1_startAnew_r2) ++ wsX10 ++ wsX00)
def wsX1_init_r1 : List Cond := [Cond.methodLink RX1 3 objectInit, Cond.instanceMethod objectInit, Cond.code objectInit ⟨#[0xb1]⟩ 1 none, Cond.fieldLink RX1 9 "WellControl$Well" "depth" "I", Cond.fieldLink RX1 15 "WellControl$Well" "pipeCapacity" "I", Cond.fieldLink RX1 18 "WellControl$Well" "annulusCapacity" "I", Cond.fieldLink RX1 21 "WellControl$Well" "shoe" "I", Cond.fieldLink RX1 24 "WellControl$Well" "mud" "I", Cond.fieldLink RX1 27 "WellControl$Well" "formation" "I", Cond.fieldLink RX1 30 "WellControl$Well" "slowPump" "I", Cond.fieldLink RX1 33 "WellControl$Well" "fracture" "I", Cond.classLink RX1 36 RX0, Cond.instantiable RX0 6, Cond.initialized RX0, Cond.fieldLink RX1 41 "WellControl$Well" "pipe" "LWellControl$Column;", Cond.fieldLink RX1 45 "WellControl$Well" "annulus" "LWellControl$Column;", Cond.methodLink RX1 38 yX0_init, Cond.instanceMethod yX0_init, Cond.code yX0_init cX0_init 2 none, Cond.methodLink RX0 3 objectInit, Cond.arrayClass .int, Cond.fieldLink RX0 9 "WellControl$Column" "volumes" "[I", Cond.fieldLink RX0 15 "WellControl$Column" "densities" "[I", Cond.fieldLink RX0 18 "WellControl$Column" "filledFromTop" "Z"]
def wsX1_init_r2 : List Cond := [Cond.methodLink RX1 48 yX1_startAnew, Cond.instanceMethod yX1_startAnew, Cond.selects RX1 yX1_startAnew yX1_startAnew, Cond.initialized RX1, Cond.code yX1_startAnew cX1_startAnew 1 none, Cond.fieldLink RX1 65 "WellControl$Well" "gained" "I", Cond.fieldLink RX1 68 "WellControl$Well" "timesBroken" "I", Cond.fieldLink RX1 71 "WellControl$Well" "greatestAtShoe" "I", Cond.methodLink RX1 51 yX0_clear, Cond.instanceMethod yX0_clear, Cond.selects RX0 yX0_clear yX0_clear, Cond.code yX0_clear cX0_clear 1 none, Cond.fieldLink RX0 22 "WellControl$Column" "oldest" "I", Cond.fieldLink RX0 26 "WellControl$Column" "count" "I", Cond.fieldLink RX0 29 "WellControl$Column" "load" "J", Cond.methodLink RX1 54 yX1_pipeVolume, Cond.instanceMethod yX1_pipeVolume, Cond.selects RX1 yX1_pipeVolume yX1_pipeVolume, Cond.code yX1_pipeVolume cX1_pipeVolume 1 (some .int), Cond.methodLink RX1 58 yX0_enter, Cond.instanceMethod yX0_enter, Cond.selects RX0 yX0_enter yX0_enter, Cond.code yX0_enter cX0_enter 4 none, Cond.methodLink RX0 53 yX0_joinsNewest]
def wsX1_init_r3 : List Cond := [Cond.instanceMethod yX0_joinsNewest, Cond.selects RX0 yX0_joinsNewest yX0_joinsNewest, Cond.code yX0_joinsNewest cX0_joinsNewest 2 (some .boolean), Cond.methodLink RX0 36 yX0_placeOfAge, Cond.instanceMethod yX0_placeOfAge, Cond.selects RX0 yX0_placeOfAge yX0_placeOfAge, Cond.code yX0_placeOfAge cX0_placeOfAge 2 (some .int), Cond.methodLink RX0 44 yJ9_floorMod_7cf53, Cond.static yJ9_floorMod_7cf53, Cond.initialized RJ9, Cond.code yJ9_floorMod_7cf53 cJ9_floorMod_7cf53 3 (some .int), Cond.methodLink RX1 62 yX1_annulusVolume, Cond.instanceMethod yX1_annulusVolume, Cond.selects RX1 yX1_annulusVolume yX1_annulusVolume, Cond.code yX1_annulusVolume cX1_annulusVolume 1 (some .int)]
def wsX1_init : List Cond := .code yX1_init cX1_init 1 none :: ((wsX1_init_r1 ++ (wsX1_init_r2 ++ wsX1_init_r3)) ++ wsX10 ++ wsX00)
def wsX1_copyFrom_r1 : List Cond := [Cond.fieldLink RX1 9 "WellControl$Well" "depth" "I", Cond.fieldLink RX1 15 "WellControl$Well" "pipeCapacity" "I", Cond.fieldLink RX1 18 "WellControl$Well" "annulusCapacity" "I", Cond.fieldLink RX1 21 "WellControl$Well" "shoe" "I", Cond.fieldLink RX1 24 "WellControl$Well" "mud" "I", Cond.fieldLink RX1 27 "WellControl$Well" "formation" "I", Cond.fieldLink RX1 30 "WellControl$Well" "slowPump" "I", Cond.fieldLink RX1 33 "WellControl$Well" "fracture" "I", Cond.fieldLink RX1 65 "WellControl$Well" "gained" "I", Cond.fieldLink RX1 68 "WellControl$Well" "timesBroken" "I", Cond.fieldLink RX1 71 "WellControl$Well" "greatestAtShoe" "I", Cond.fieldLink RX1 41 "WellControl$Well" "pipe" "LWellControl$Column;", Cond.fieldLink RX1 45 "WellControl$Well" "annulus" "LWellControl$Column;", Cond.methodLink RX1 74 yX0_copyFrom, Cond.instanceMethod yX0_copyFrom, Cond.selects RX0 yX0_copyFrom yX0_copyFrom, Cond.initialized RX0, Cond.code yX0_copyFrom cX0_copyFrom 4 none, Cond.fieldLink RX0 26 "WellControl$Column" "count" "I", Cond.fieldLink RX0 9 "WellControl$Column" "volumes" "[I", Cond.fieldLink RX0 15 "WellControl$Column" "densities" "[I", Cond.methodLink RX0 33 yX0_clear, Cond.instanceMethod yX0_clear, Cond.selects RX0 yX0_clear yX0_clear]
def wsX1_copyFrom_r2 : List Cond := [Cond.code yX0_clear cX0_clear 1 none, Cond.fieldLink RX0 22 "WellControl$Column" "oldest" "I", Cond.fieldLink RX0 29 "WellControl$Column" "load" "J", Cond.methodLink RX0 36 yX0_placeOfAge, Cond.instanceMethod yX0_placeOfAge, Cond.selects RX0 yX0_placeOfAge yX0_placeOfAge, Cond.code yX0_placeOfAge cX0_placeOfAge 2 (some .int), Cond.methodLink RX0 44 yJ9_floorMod_7cf53, Cond.static yJ9_floorMod_7cf53, Cond.initialized RJ9, Cond.code yJ9_floorMod_7cf53 cJ9_floorMod_7cf53 3 (some .int), Cond.methodLink RX0 40 yX0_enter, Cond.instanceMethod yX0_enter, Cond.selects RX0 yX0_enter yX0_enter, Cond.code yX0_enter cX0_enter 4 none, Cond.methodLink RX0 53 yX0_joinsNewest, Cond.instanceMethod yX0_joinsNewest, Cond.selects RX0 yX0_joinsNewest yX0_joinsNewest, Cond.code yX0_joinsNewest cX0_joinsNewest 2 (some .boolean)]
def wsX1_copyFrom : List Cond := .code yX1_copyFrom cX1_copyFrom 2 none :: ((wsX1_copyFrom_r1 ++ wsX1_copyFrom_r2) ++ wsX10 ++ wsX00)
def wsX1_column : List Cond := .code yX1_column cX1_column 2 (some (.object "WellControl$Column")) :: ([.fieldLink RX1 41 "WellControl$Well" "pipe" "LWellControl$Column;", .fieldLink RX1 45 "WellControl$Well" "annulus" "LWellControl$Column;"] ++ wsX10)
def wsX1_capacity : List Cond := .code yX1_capacity cX1_capacity 2 (some .int) :: ([.fieldLink RX1 15 "WellControl$Well" "pipeCapacity" "I", .fieldLink RX1 18 "WellControl$Well" "annulusCapacity" "I"] ++ wsX10)
def wsX1_canCirculate : List Cond := .code yX1_canCirculate cX1_canCirculate 2 (some .boolean) :: ([.methodLink RX1 54 yX1_pipeVolume, .instanceMethod yX1_pipeVolume, .selects RX1 yX1_pipeVolume yX1_pipeVolume, .initialized RX1, .code yX1_pipeVolume cX1_pipeVolume 1 (some .int), .fieldLink RX1 9 "WellControl$Well" "depth" "I", .fieldLink RX1 15 "WellControl$Well" "pipeCapacity" "I", .methodLink RX1 62 yX1_annulusVolume, .instanceMethod yX1_annulusVolume, .selects RX1 yX1_annulusVolume yX1_annulusVolume, .code yX1_annulusVolume cX1_annulusVolume 1 (some .int), .fieldLink RX1 18 "WellControl$Well" "annulusCapacity" "I"] ++ wsX10)
def wsX1_circulate_r1 : List Cond := [Cond.fieldLink RX1 45 "WellControl$Well" "annulus" "LWellControl$Column;", Cond.fieldLink RX1 41 "WellControl$Well" "pipe" "LWellControl$Column;", Cond.methodLink RX1 78 yX0_release, Cond.instanceMethod yX0_release, Cond.selects RX0 yX0_release yX0_release, Cond.initialized RX0, Cond.code yX0_release cX0_release 4 none, Cond.fieldLink RX0 26 "WellControl$Column" "count" "I", Cond.methodLink RX0 57 yX0_releaseOldest, Cond.instanceMethod yX0_releaseOldest, Cond.selects RX0 yX0_releaseOldest yX0_releaseOldest, Cond.code yX0_releaseOldest cX0_releaseOldest 4 (some .int), Cond.fieldLink RX0 9 "WellControl$Column" "volumes" "[I", Cond.methodLink RX0 60 Lib.Math.min.name, Cond.static Lib.Math.min.name, Cond.initialized "java/lang/Math", Cond.code Lib.Math.min.name Lib.Math.min.code 2 (some .int), Cond.fieldLink RX0 29 "WellControl$Column" "load" "J", Cond.fieldLink RX0 15 "WellControl$Column" "densities" "[I", Cond.fieldLink RX0 22 "WellControl$Column" "oldest" "I", Cond.methodLink RX0 36 yX0_placeOfAge, Cond.instanceMethod yX0_placeOfAge, Cond.selects RX0 yX0_placeOfAge yX0_placeOfAge, Cond.code yX0_placeOfAge cX0_placeOfAge 2 (some .int)]
def wsX1_circulate_r2 : List Cond := [Cond.methodLink RX0 44 yJ9_floorMod_7cf53, Cond.static yJ9_floorMod_7cf53, Cond.initialized RJ9, Cond.code yJ9_floorMod_7cf53 cJ9_floorMod_7cf53 3 (some .int), Cond.methodLink RX1 82 yX0_releaseInto, Cond.instanceMethod yX0_releaseInto, Cond.selects RX0 yX0_releaseInto yX0_releaseInto, Cond.code yX0_releaseInto cX0_releaseInto 7 none, Cond.methodLink RX0 40 yX0_enter, Cond.instanceMethod yX0_enter, Cond.selects RX0 yX0_enter yX0_enter, Cond.code yX0_enter cX0_enter 4 none, Cond.methodLink RX0 53 yX0_joinsNewest, Cond.instanceMethod yX0_joinsNewest, Cond.selects RX0 yX0_joinsNewest yX0_joinsNewest, Cond.code yX0_joinsNewest cX0_joinsNewest 2 (some .boolean), Cond.methodLink RX1 58 yX0_enter]
def wsX1_circulate : List Cond := .code yX1_circulate cX1_circulate 3 none :: ((wsX1_circulate_r1 ++ wsX1_circulate_r2) ++ wsX10 ++ wsX00)
def wsX2_portionsFor : List Cond := .code yX2_portionsFor cX2_portionsFor 3 (some .int) :: ([.methodLink RX2 124 Lib.Math.max.name, .static Lib.Math.max.name, .initialized "java/lang/Math", .code Lib.Math.max.name Lib.Math.max.code 2 (some .int)])
def wsX1_pressureOf : List Cond := .code yX1_pressureOf cX1_pressureOf 3 (some .int) :: ([.constantLong RX1 124 (981), .constantLong RX1 126 (100000), .methodLink RX1 99 Lib.Math.max.name, .static Lib.Math.max.name, .initialized "java/lang/Math", .code Lib.Math.max.name Lib.Math.max.code 2 (some .int)])
def wsX1_pressureOfWhole : List Cond := .code yX1_pressureOfWhole cX1_pressureOfWhole 2 (some .int) :: ([.fieldLink RX1 108 "WellControl$Column" "load" "J", .methodLink RX1 104 yX1_column, .instanceMethod yX1_column, .selects RX1 yX1_column yX1_column, .initialized RX1, .code yX1_column cX1_column 2 (some (.object "WellControl$Column")), .fieldLink RX1 41 "WellControl$Well" "pipe" "LWellControl$Column;", .fieldLink RX1 45 "WellControl$Well" "annulus" "LWellControl$Column;", .methodLink RX1 112 yX1_capacity, .instanceMethod yX1_capacity, .selects RX1 yX1_capacity yX1_capacity, .code yX1_capacity cX1_capacity 2 (some .int), .fieldLink RX1 15 "WellControl$Well" "pipeCapacity" "I", .fieldLink RX1 18 "WellControl$Well" "annulusCapacity" "I", .methodLink RX1 116 yX1_pressureOf, .static yX1_pressureOf, .code yX1_pressureOf cX1_pressureOf 3 (some .int), .constantLong RX1 124 (981), .constantLong RX1 126 (100000), .methodLink RX1 99 Lib.Math.max.name, .static Lib.Math.max.name, .initialized "java/lang/Math", .code Lib.Math.max.name Lib.Math.max.code 2 (some .int)] ++ wsX00 ++ wsX10)
def wsX1_pressureAtCasing_r1 : List Cond := [Cond.fieldLink RX1 27 "WellControl$Well" "formation" "I", Cond.methodLink RX1 99 Lib.Math.max.name, Cond.static Lib.Math.max.name, Cond.initialized "java/lang/Math", Cond.code Lib.Math.max.name Lib.Math.max.code 2 (some .int), Cond.methodLink RX1 128 yX1_pressureOfWhole, Cond.instanceMethod yX1_pressureOfWhole, Cond.selects RX1 yX1_pressureOfWhole yX1_pressureOfWhole, Cond.initialized RX1, Cond.code yX1_pressureOfWhole cX1_pressureOfWhole 2 (some .int), Cond.fieldLink RX1 108 "WellControl$Column" "load" "J", Cond.methodLink RX1 104 yX1_column, Cond.instanceMethod yX1_column, Cond.selects RX1 yX1_column yX1_column, Cond.code yX1_column cX1_column 2 (some (.object "WellControl$Column")), Cond.fieldLink RX1 41 "WellControl$Well" "pipe" "LWellControl$Column;", Cond.fieldLink RX1 45 "WellControl$Well" "annulus" "LWellControl$Column;", Cond.methodLink RX1 112 yX1_capacity, Cond.instanceMethod yX1_capacity, Cond.selects RX1 yX1_capacity yX1_capacity, Cond.code yX1_capacity cX1_capacity 2 (some .int), Cond.fieldLink RX1 15 "WellControl$Well" "pipeCapacity" "I", Cond.fieldLink RX1 18 "WellControl$Well" "annulusCapacity" "I", Cond.methodLink RX1 116 yX1_pressureOf]
def wsX1_pressureAtCasing_r2 : List Cond := [Cond.static yX1_pressureOf, Cond.code yX1_pressureOf cX1_pressureOf 3 (some .int), Cond.constantLong RX1 124 (981), Cond.constantLong RX1 126 (100000)]
def wsX1_pressureAtCasing : List Cond := .code yX1_pressureAtCasing cX1_pressureAtCasing 1 (some .int) :: ((wsX1_pressureAtCasing_r1 ++ wsX1_pressureAtCasing_r2) ++ wsX10 ++ wsX00)
def wsX1_pressureOfPart_r1 : List Cond := [Cond.methodLink RX1 112 yX1_capacity, Cond.instanceMethod yX1_capacity, Cond.selects RX1 yX1_capacity yX1_capacity, Cond.initialized RX1, Cond.code yX1_capacity cX1_capacity 2 (some .int), Cond.fieldLink RX1 15 "WellControl$Well" "pipeCapacity" "I", Cond.fieldLink RX1 18 "WellControl$Well" "annulusCapacity" "I", Cond.methodLink RX1 104 yX1_column, Cond.instanceMethod yX1_column, Cond.selects RX1 yX1_column yX1_column, Cond.code yX1_column cX1_column 2 (some (.object "WellControl$Column")), Cond.fieldLink RX1 41 "WellControl$Well" "pipe" "LWellControl$Column;", Cond.fieldLink RX1 45 "WellControl$Well" "annulus" "LWellControl$Column;", Cond.methodLink RX1 120 yX0_loadAbove, Cond.instanceMethod yX0_loadAbove, Cond.selects RX0 yX0_loadAbove yX0_loadAbove, Cond.initialized RX0, Cond.code yX0_loadAbove cX0_loadAbove 8 (some .long), Cond.fieldLink RX0 26 "WellControl$Column" "count" "I", Cond.fieldLink RX0 9 "WellControl$Column" "volumes" "[I", Cond.methodLink RX0 60 Lib.Math.min.name, Cond.static Lib.Math.min.name, Cond.initialized "java/lang/Math", Cond.code Lib.Math.min.name Lib.Math.min.code 2 (some .int)]
def wsX1_pressureOfPart_r2 : List Cond := [Cond.fieldLink RX0 15 "WellControl$Column" "densities" "[I", Cond.methodLink RX0 50 yX0_placeOfIndex, Cond.instanceMethod yX0_placeOfIndex, Cond.selects RX0 yX0_placeOfIndex yX0_placeOfIndex, Cond.code yX0_placeOfIndex cX0_placeOfIndex 3 (some .int), Cond.fieldLink RX0 18 "WellControl$Column" "filledFromTop" "Z", Cond.fieldLink RX0 22 "WellControl$Column" "oldest" "I", Cond.methodLink RX0 44 yJ9_floorMod_7cf53, Cond.static yJ9_floorMod_7cf53, Cond.initialized RJ9, Cond.code yJ9_floorMod_7cf53 cJ9_floorMod_7cf53 3 (some .int), Cond.methodLink RX1 116 yX1_pressureOf, Cond.static yX1_pressureOf, Cond.code yX1_pressureOf cX1_pressureOf 3 (some .int), Cond.constantLong RX1 124 (981), Cond.constantLong RX1 126 (100000), Cond.methodLink RX1 99 Lib.Math.max.name, Cond.static Lib.Math.max.name, Cond.code Lib.Math.max.name Lib.Math.max.code 2 (some .int)]
def wsX1_pressureOfPart : List Cond := .code yX1_pressureOfPart cX1_pressureOfPart 4 (some .int) :: ((wsX1_pressureOfPart_r1 ++ wsX1_pressureOfPart_r2) ++ wsX10 ++ wsX00)
def wsX1_pressureAtShoe_r1 : List Cond := [Cond.fieldLink RX1 21 "WellControl$Well" "shoe" "I", Cond.methodLink RX1 134 yX1_pressureAtCasing, Cond.instanceMethod yX1_pressureAtCasing, Cond.selects RX1 yX1_pressureAtCasing yX1_pressureAtCasing, Cond.initialized RX1, Cond.code yX1_pressureAtCasing cX1_pressureAtCasing 1 (some .int), Cond.fieldLink RX1 27 "WellControl$Well" "formation" "I", Cond.methodLink RX1 99 Lib.Math.max.name, Cond.static Lib.Math.max.name, Cond.initialized "java/lang/Math", Cond.code Lib.Math.max.name Lib.Math.max.code 2 (some .int), Cond.methodLink RX1 128 yX1_pressureOfWhole, Cond.instanceMethod yX1_pressureOfWhole, Cond.selects RX1 yX1_pressureOfWhole yX1_pressureOfWhole, Cond.code yX1_pressureOfWhole cX1_pressureOfWhole 2 (some .int), Cond.fieldLink RX1 108 "WellControl$Column" "load" "J", Cond.methodLink RX1 104 yX1_column, Cond.instanceMethod yX1_column, Cond.selects RX1 yX1_column yX1_column, Cond.code yX1_column cX1_column 2 (some (.object "WellControl$Column")), Cond.fieldLink RX1 41 "WellControl$Well" "pipe" "LWellControl$Column;", Cond.fieldLink RX1 45 "WellControl$Well" "annulus" "LWellControl$Column;", Cond.methodLink RX1 112 yX1_capacity, Cond.instanceMethod yX1_capacity]
def wsX1_pressureAtShoe_r2 : List Cond := [Cond.selects RX1 yX1_capacity yX1_capacity, Cond.code yX1_capacity cX1_capacity 2 (some .int), Cond.fieldLink RX1 15 "WellControl$Well" "pipeCapacity" "I", Cond.fieldLink RX1 18 "WellControl$Well" "annulusCapacity" "I", Cond.methodLink RX1 116 yX1_pressureOf, Cond.static yX1_pressureOf, Cond.code yX1_pressureOf cX1_pressureOf 3 (some .int), Cond.constantLong RX1 124 (981), Cond.constantLong RX1 126 (100000), Cond.methodLink RX1 137 yX1_pressureOfPart, Cond.instanceMethod yX1_pressureOfPart, Cond.selects RX1 yX1_pressureOfPart yX1_pressureOfPart, Cond.code yX1_pressureOfPart cX1_pressureOfPart 4 (some .int), Cond.methodLink RX1 120 yX0_loadAbove, Cond.instanceMethod yX0_loadAbove, Cond.selects RX0 yX0_loadAbove yX0_loadAbove, Cond.initialized RX0, Cond.code yX0_loadAbove cX0_loadAbove 8 (some .long), Cond.fieldLink RX0 26 "WellControl$Column" "count" "I", Cond.fieldLink RX0 9 "WellControl$Column" "volumes" "[I", Cond.methodLink RX0 60 Lib.Math.min.name, Cond.static Lib.Math.min.name, Cond.code Lib.Math.min.name Lib.Math.min.code 2 (some .int), Cond.fieldLink RX0 15 "WellControl$Column" "densities" "[I"]
def wsX1_pressureAtShoe_r3 : List Cond := [Cond.methodLink RX0 50 yX0_placeOfIndex, Cond.instanceMethod yX0_placeOfIndex, Cond.selects RX0 yX0_placeOfIndex yX0_placeOfIndex, Cond.code yX0_placeOfIndex cX0_placeOfIndex 3 (some .int), Cond.fieldLink RX0 18 "WellControl$Column" "filledFromTop" "Z", Cond.fieldLink RX0 22 "WellControl$Column" "oldest" "I", Cond.methodLink RX0 44 yJ9_floorMod_7cf53, Cond.static yJ9_floorMod_7cf53, Cond.initialized RJ9, Cond.code yJ9_floorMod_7cf53 cJ9_floorMod_7cf53 3 (some .int)]
def wsX1_pressureAtShoe : List Cond := .code yX1_pressureAtShoe cX1_pressureAtShoe 1 (some .int) :: ((wsX1_pressureAtShoe_r1 ++ (wsX1_pressureAtShoe_r2 ++ wsX1_pressureAtShoe_r3)) ++ wsX10 ++ wsX00)
def wsX1_checkShoe_r1 : List Cond := [Cond.fieldLink RX1 33 "WellControl$Well" "fracture" "I", Cond.fieldLink RX1 68 "WellControl$Well" "timesBroken" "I", Cond.fieldLink RX1 71 "WellControl$Well" "greatestAtShoe" "I", Cond.methodLink RX1 99 Lib.Math.max.name, Cond.static Lib.Math.max.name, Cond.initialized "java/lang/Math", Cond.code Lib.Math.max.name Lib.Math.max.code 2 (some .int), Cond.methodLink RX1 96 yX1_pressureAtShoe, Cond.instanceMethod yX1_pressureAtShoe, Cond.selects RX1 yX1_pressureAtShoe yX1_pressureAtShoe, Cond.initialized RX1, Cond.code yX1_pressureAtShoe cX1_pressureAtShoe 1 (some .int), Cond.fieldLink RX1 21 "WellControl$Well" "shoe" "I", Cond.methodLink RX1 134 yX1_pressureAtCasing, Cond.instanceMethod yX1_pressureAtCasing, Cond.selects RX1 yX1_pressureAtCasing yX1_pressureAtCasing, Cond.code yX1_pressureAtCasing cX1_pressureAtCasing 1 (some .int), Cond.fieldLink RX1 27 "WellControl$Well" "formation" "I", Cond.methodLink RX1 128 yX1_pressureOfWhole, Cond.instanceMethod yX1_pressureOfWhole, Cond.selects RX1 yX1_pressureOfWhole yX1_pressureOfWhole, Cond.code yX1_pressureOfWhole cX1_pressureOfWhole 2 (some .int), Cond.fieldLink RX1 108 "WellControl$Column" "load" "J", Cond.methodLink RX1 104 yX1_column]
def wsX1_checkShoe_r2 : List Cond := [Cond.instanceMethod yX1_column, Cond.selects RX1 yX1_column yX1_column, Cond.code yX1_column cX1_column 2 (some (.object "WellControl$Column")), Cond.fieldLink RX1 41 "WellControl$Well" "pipe" "LWellControl$Column;", Cond.fieldLink RX1 45 "WellControl$Well" "annulus" "LWellControl$Column;", Cond.methodLink RX1 112 yX1_capacity, Cond.instanceMethod yX1_capacity, Cond.selects RX1 yX1_capacity yX1_capacity, Cond.code yX1_capacity cX1_capacity 2 (some .int), Cond.fieldLink RX1 15 "WellControl$Well" "pipeCapacity" "I", Cond.fieldLink RX1 18 "WellControl$Well" "annulusCapacity" "I", Cond.methodLink RX1 116 yX1_pressureOf, Cond.static yX1_pressureOf, Cond.code yX1_pressureOf cX1_pressureOf 3 (some .int), Cond.constantLong RX1 124 (981), Cond.constantLong RX1 126 (100000), Cond.methodLink RX1 137 yX1_pressureOfPart, Cond.instanceMethod yX1_pressureOfPart, Cond.selects RX1 yX1_pressureOfPart yX1_pressureOfPart, Cond.code yX1_pressureOfPart cX1_pressureOfPart 4 (some .int), Cond.methodLink RX1 120 yX0_loadAbove, Cond.instanceMethod yX0_loadAbove, Cond.selects RX0 yX0_loadAbove yX0_loadAbove, Cond.initialized RX0]
def wsX1_checkShoe_r3 : List Cond := [Cond.code yX0_loadAbove cX0_loadAbove 8 (some .long), Cond.fieldLink RX0 26 "WellControl$Column" "count" "I", Cond.fieldLink RX0 9 "WellControl$Column" "volumes" "[I", Cond.methodLink RX0 60 Lib.Math.min.name, Cond.static Lib.Math.min.name, Cond.code Lib.Math.min.name Lib.Math.min.code 2 (some .int), Cond.fieldLink RX0 15 "WellControl$Column" "densities" "[I", Cond.methodLink RX0 50 yX0_placeOfIndex, Cond.instanceMethod yX0_placeOfIndex, Cond.selects RX0 yX0_placeOfIndex yX0_placeOfIndex, Cond.code yX0_placeOfIndex cX0_placeOfIndex 3 (some .int), Cond.fieldLink RX0 18 "WellControl$Column" "filledFromTop" "Z", Cond.fieldLink RX0 22 "WellControl$Column" "oldest" "I", Cond.methodLink RX0 44 yJ9_floorMod_7cf53, Cond.static yJ9_floorMod_7cf53, Cond.initialized RJ9, Cond.code yJ9_floorMod_7cf53 cJ9_floorMod_7cf53 3 (some .int)]
def wsX1_checkShoe : List Cond := .code yX1_checkShoe cX1_checkShoe 2 none :: ((wsX1_checkShoe_r1 ++ (wsX1_checkShoe_r2 ++ wsX1_checkShoe_r3)) ++ wsX10 ++ wsX00)
def wsX1_circulateInSteps_r1 : List Cond := [Cond.static yX2_portionsFor, Cond.initialized RX2, Cond.code yX2_portionsFor cX2_portionsFor 3 (some .int), Cond.methodLink RX2 124 Lib.Math.max.name, Cond.static Lib.Math.max.name, Cond.initialized "java/lang/Math", Cond.code Lib.Math.max.name Lib.Math.max.code 2 (some .int), Cond.methodLink RX1 90 yX1_circulate, Cond.instanceMethod yX1_circulate, Cond.selects RX1 yX1_circulate yX1_circulate, Cond.initialized RX1, Cond.code yX1_circulate cX1_circulate 3 none, Cond.fieldLink RX1 45 "WellControl$Well" "annulus" "LWellControl$Column;", Cond.fieldLink RX1 41 "WellControl$Well" "pipe" "LWellControl$Column;", Cond.methodLink RX1 78 yX0_release, Cond.instanceMethod yX0_release, Cond.selects RX0 yX0_release yX0_release, Cond.initialized RX0, Cond.code yX0_release cX0_release 4 none, Cond.fieldLink RX0 26 "WellControl$Column" "count" "I", Cond.methodLink RX0 57 yX0_releaseOldest, Cond.instanceMethod yX0_releaseOldest, Cond.selects RX0 yX0_releaseOldest yX0_releaseOldest, Cond.code yX0_releaseOldest cX0_releaseOldest 4 (some .int)]
def wsX1_circulateInSteps_r2 : List Cond := [Cond.fieldLink RX0 9 "WellControl$Column" "volumes" "[I", Cond.methodLink RX0 60 Lib.Math.min.name, Cond.static Lib.Math.min.name, Cond.code Lib.Math.min.name Lib.Math.min.code 2 (some .int), Cond.fieldLink RX0 29 "WellControl$Column" "load" "J", Cond.fieldLink RX0 15 "WellControl$Column" "densities" "[I", Cond.fieldLink RX0 22 "WellControl$Column" "oldest" "I", Cond.methodLink RX0 36 yX0_placeOfAge, Cond.instanceMethod yX0_placeOfAge, Cond.selects RX0 yX0_placeOfAge yX0_placeOfAge, Cond.code yX0_placeOfAge cX0_placeOfAge 2 (some .int), Cond.methodLink RX0 44 yJ9_floorMod_7cf53, Cond.static yJ9_floorMod_7cf53, Cond.initialized RJ9, Cond.code yJ9_floorMod_7cf53 cJ9_floorMod_7cf53 3 (some .int), Cond.methodLink RX1 82 yX0_releaseInto, Cond.instanceMethod yX0_releaseInto, Cond.selects RX0 yX0_releaseInto yX0_releaseInto, Cond.code yX0_releaseInto cX0_releaseInto 7 none, Cond.methodLink RX0 40 yX0_enter, Cond.instanceMethod yX0_enter, Cond.selects RX0 yX0_enter yX0_enter, Cond.code yX0_enter cX0_enter 4 none, Cond.methodLink RX0 53 yX0_joinsNewest]
def wsX1_circulateInSteps_r3 : List Cond := [Cond.instanceMethod yX0_joinsNewest, Cond.selects RX0 yX0_joinsNewest yX0_joinsNewest, Cond.code yX0_joinsNewest cX0_joinsNewest 2 (some .boolean), Cond.methodLink RX1 58 yX0_enter, Cond.methodLink RX1 93 yX1_checkShoe, Cond.instanceMethod yX1_checkShoe, Cond.selects RX1 yX1_checkShoe yX1_checkShoe, Cond.code yX1_checkShoe cX1_checkShoe 2 none, Cond.fieldLink RX1 33 "WellControl$Well" "fracture" "I", Cond.fieldLink RX1 68 "WellControl$Well" "timesBroken" "I", Cond.fieldLink RX1 71 "WellControl$Well" "greatestAtShoe" "I", Cond.methodLink RX1 99 Lib.Math.max.name, Cond.methodLink RX1 96 yX1_pressureAtShoe, Cond.instanceMethod yX1_pressureAtShoe, Cond.selects RX1 yX1_pressureAtShoe yX1_pressureAtShoe, Cond.code yX1_pressureAtShoe cX1_pressureAtShoe 1 (some .int), Cond.fieldLink RX1 21 "WellControl$Well" "shoe" "I", Cond.methodLink RX1 134 yX1_pressureAtCasing, Cond.instanceMethod yX1_pressureAtCasing, Cond.selects RX1 yX1_pressureAtCasing yX1_pressureAtCasing, Cond.code yX1_pressureAtCasing cX1_pressureAtCasing 1 (some .int), Cond.fieldLink RX1 27 "WellControl$Well" "formation" "I", Cond.methodLink RX1 128 yX1_pressureOfWhole, Cond.instanceMethod yX1_pressureOfWhole]
def wsX1_circulateInSteps_r4 : List Cond := [Cond.selects RX1 yX1_pressureOfWhole yX1_pressureOfWhole, Cond.code yX1_pressureOfWhole cX1_pressureOfWhole 2 (some .int), Cond.fieldLink RX1 108 "WellControl$Column" "load" "J", Cond.methodLink RX1 104 yX1_column, Cond.instanceMethod yX1_column, Cond.selects RX1 yX1_column yX1_column, Cond.code yX1_column cX1_column 2 (some (.object "WellControl$Column")), Cond.methodLink RX1 112 yX1_capacity, Cond.instanceMethod yX1_capacity, Cond.selects RX1 yX1_capacity yX1_capacity, Cond.code yX1_capacity cX1_capacity 2 (some .int), Cond.fieldLink RX1 15 "WellControl$Well" "pipeCapacity" "I", Cond.fieldLink RX1 18 "WellControl$Well" "annulusCapacity" "I", Cond.methodLink RX1 116 yX1_pressureOf, Cond.static yX1_pressureOf, Cond.code yX1_pressureOf cX1_pressureOf 3 (some .int), Cond.constantLong RX1 124 (981), Cond.constantLong RX1 126 (100000), Cond.methodLink RX1 137 yX1_pressureOfPart, Cond.instanceMethod yX1_pressureOfPart, Cond.selects RX1 yX1_pressureOfPart yX1_pressureOfPart, Cond.code yX1_pressureOfPart cX1_pressureOfPart 4 (some .int), Cond.methodLink RX1 120 yX0_loadAbove, Cond.instanceMethod yX0_loadAbove]
def wsX1_circulateInSteps_r5 : List Cond := [Cond.selects RX0 yX0_loadAbove yX0_loadAbove, Cond.code yX0_loadAbove cX0_loadAbove 8 (some .long), Cond.methodLink RX0 50 yX0_placeOfIndex, Cond.instanceMethod yX0_placeOfIndex, Cond.selects RX0 yX0_placeOfIndex yX0_placeOfIndex, Cond.code yX0_placeOfIndex cX0_placeOfIndex 3 (some .int), Cond.fieldLink RX0 18 "WellControl$Column" "filledFromTop" "Z"]
def wsX1_circulateInSteps : List Cond := .code yX1_circulateInSteps cX1_circulateInSteps 6 none :: ((wsX1_circulateInSteps_r1 ++ (wsX1_circulateInSteps_r2 ++ (wsX1_circulateInSteps_r3 ++ (wsX1_circulateInSteps_r4 ++ wsX1_circulateInSteps_r5)))) ++ wsX10 ++ wsX00)
def wsX1_letIn_r1 : List Cond := [Cond.fieldLink RX1 45 "WellControl$Well" "annulus" "LWellControl$Column;", Cond.fieldLink RX1 65 "WellControl$Well" "gained" "I", Cond.methodLink RX1 78 yX0_release, Cond.instanceMethod yX0_release, Cond.selects RX0 yX0_release yX0_release, Cond.initialized RX0, Cond.code yX0_release cX0_release 4 none, Cond.fieldLink RX0 26 "WellControl$Column" "count" "I", Cond.methodLink RX0 57 yX0_releaseOldest, Cond.instanceMethod yX0_releaseOldest, Cond.selects RX0 yX0_releaseOldest yX0_releaseOldest, Cond.code yX0_releaseOldest cX0_releaseOldest 4 (some .int), Cond.fieldLink RX0 9 "WellControl$Column" "volumes" "[I", Cond.methodLink RX0 60 Lib.Math.min.name, Cond.static Lib.Math.min.name, Cond.initialized "java/lang/Math", Cond.code Lib.Math.min.name Lib.Math.min.code 2 (some .int), Cond.fieldLink RX0 29 "WellControl$Column" "load" "J", Cond.fieldLink RX0 15 "WellControl$Column" "densities" "[I", Cond.fieldLink RX0 22 "WellControl$Column" "oldest" "I", Cond.methodLink RX0 36 yX0_placeOfAge, Cond.instanceMethod yX0_placeOfAge, Cond.selects RX0 yX0_placeOfAge yX0_placeOfAge, Cond.code yX0_placeOfAge cX0_placeOfAge 2 (some .int)]
def wsX1_letIn_r2 : List Cond := [Cond.methodLink RX0 44 yJ9_floorMod_7cf53, Cond.static yJ9_floorMod_7cf53, Cond.initialized RJ9, Cond.code yJ9_floorMod_7cf53 cJ9_floorMod_7cf53 3 (some .int), Cond.methodLink RX1 58 yX0_enter, Cond.instanceMethod yX0_enter, Cond.selects RX0 yX0_enter yX0_enter, Cond.code yX0_enter cX0_enter 4 none, Cond.methodLink RX0 53 yX0_joinsNewest, Cond.instanceMethod yX0_joinsNewest, Cond.selects RX0 yX0_joinsNewest yX0_joinsNewest, Cond.code yX0_joinsNewest cX0_joinsNewest 2 (some .boolean)]
def wsX1_letIn : List Cond := .code yX1_letIn cX1_letIn 3 none :: ((wsX1_letIn_r1 ++ wsX1_letIn_r2) ++ wsX10 ++ wsX00)
def wsX1_pressureAtPipe_r1 : List Cond := [Cond.fieldLink RX1 27 "WellControl$Well" "formation" "I", Cond.methodLink RX1 99 Lib.Math.max.name, Cond.static Lib.Math.max.name, Cond.initialized "java/lang/Math", Cond.code Lib.Math.max.name Lib.Math.max.code 2 (some .int), Cond.methodLink RX1 128 yX1_pressureOfWhole, Cond.instanceMethod yX1_pressureOfWhole, Cond.selects RX1 yX1_pressureOfWhole yX1_pressureOfWhole, Cond.initialized RX1, Cond.code yX1_pressureOfWhole cX1_pressureOfWhole 2 (some .int), Cond.fieldLink RX1 108 "WellControl$Column" "load" "J", Cond.methodLink RX1 104 yX1_column, Cond.instanceMethod yX1_column, Cond.selects RX1 yX1_column yX1_column, Cond.code yX1_column cX1_column 2 (some (.object "WellControl$Column")), Cond.fieldLink RX1 41 "WellControl$Well" "pipe" "LWellControl$Column;", Cond.fieldLink RX1 45 "WellControl$Well" "annulus" "LWellControl$Column;", Cond.methodLink RX1 112 yX1_capacity, Cond.instanceMethod yX1_capacity, Cond.selects RX1 yX1_capacity yX1_capacity, Cond.code yX1_capacity cX1_capacity 2 (some .int), Cond.fieldLink RX1 15 "WellControl$Well" "pipeCapacity" "I", Cond.fieldLink RX1 18 "WellControl$Well" "annulusCapacity" "I", Cond.methodLink RX1 116 yX1_pressureOf]
def wsX1_pressureAtPipe_r2 : List Cond := [Cond.static yX1_pressureOf, Cond.code yX1_pressureOf cX1_pressureOf 3 (some .int), Cond.constantLong RX1 124 (981), Cond.constantLong RX1 126 (100000)]
def wsX1_pressureAtPipe : List Cond := .code yX1_pressureAtPipe cX1_pressureAtPipe 1 (some .int) :: ((wsX1_pressureAtPipe_r1 ++ wsX1_pressureAtPipe_r2) ++ wsX10 ++ wsX00)
def wsX1_pressureAtStandpipe_r1 : List Cond := [Cond.fieldLink RX1 30 "WellControl$Well" "slowPump" "I", Cond.methodLink RX1 131 yX1_pressureAtPipe, Cond.instanceMethod yX1_pressureAtPipe, Cond.selects RX1 yX1_pressureAtPipe yX1_pressureAtPipe, Cond.initialized RX1, Cond.code yX1_pressureAtPipe cX1_pressureAtPipe 1 (some .int), Cond.fieldLink RX1 27 "WellControl$Well" "formation" "I", Cond.methodLink RX1 99 Lib.Math.max.name, Cond.static Lib.Math.max.name, Cond.initialized "java/lang/Math", Cond.code Lib.Math.max.name Lib.Math.max.code 2 (some .int), Cond.methodLink RX1 128 yX1_pressureOfWhole, Cond.instanceMethod yX1_pressureOfWhole, Cond.selects RX1 yX1_pressureOfWhole yX1_pressureOfWhole, Cond.code yX1_pressureOfWhole cX1_pressureOfWhole 2 (some .int), Cond.fieldLink RX1 108 "WellControl$Column" "load" "J", Cond.methodLink RX1 104 yX1_column, Cond.instanceMethod yX1_column, Cond.selects RX1 yX1_column yX1_column, Cond.code yX1_column cX1_column 2 (some (.object "WellControl$Column")), Cond.fieldLink RX1 41 "WellControl$Well" "pipe" "LWellControl$Column;", Cond.fieldLink RX1 45 "WellControl$Well" "annulus" "LWellControl$Column;", Cond.methodLink RX1 112 yX1_capacity, Cond.instanceMethod yX1_capacity]
def wsX1_pressureAtStandpipe_r2 : List Cond := [Cond.selects RX1 yX1_capacity yX1_capacity, Cond.code yX1_capacity cX1_capacity 2 (some .int), Cond.fieldLink RX1 15 "WellControl$Well" "pipeCapacity" "I", Cond.fieldLink RX1 18 "WellControl$Well" "annulusCapacity" "I", Cond.methodLink RX1 116 yX1_pressureOf, Cond.static yX1_pressureOf, Cond.code yX1_pressureOf cX1_pressureOf 3 (some .int), Cond.constantLong RX1 124 (981), Cond.constantLong RX1 126 (100000)]
def wsX1_pressureAtStandpipe : List Cond := .code yX1_pressureAtStandpipe cX1_pressureAtStandpipe 1 (some .int) :: ((wsX1_pressureAtStandpipe_r1 ++ wsX1_pressureAtStandpipe_r2) ++ wsX10 ++ wsX00)
def wsX1_densityToKill : List Cond := .code yX1_densityToKill cX1_densityToKill 5 (some .int) :: ([.constantLong RX1 124 (981), .fieldLink RX1 9 "WellControl$Well" "depth" "I", .methodLink RX1 99 Lib.Math.max.name, .static Lib.Math.max.name, .initialized "java/lang/Math", .code Lib.Math.max.name Lib.Math.max.code 2 (some .int), .constantLong RX1 126 (100000), .fieldLink RX1 27 "WellControl$Well" "formation" "I", .constantLong RX1 140 (2500), .methodLink RX1 142 Lib.MathLoose.max_long.x, .static Lib.MathLoose.max_long.x, .code Lib.MathLoose.max_long.x Lib.MathLoose.max_long.code 4 (some .long)] ++ wsX10)
def wsX1_mixedSettings : List Cond := .code yX1_mixedSettings cX1_mixedSettings 3 (some .long) :: ([.fieldLink RX1 9 "WellControl$Well" "depth" "I", .fieldLink RX1 15 "WellControl$Well" "pipeCapacity" "I", .fieldLink RX1 18 "WellControl$Well" "annulusCapacity" "I", .fieldLink RX1 21 "WellControl$Well" "shoe" "I", .fieldLink RX1 24 "WellControl$Well" "mud" "I", .fieldLink RX1 27 "WellControl$Well" "formation" "I", .fieldLink RX1 30 "WellControl$Well" "slowPump" "I", .fieldLink RX1 33 "WellControl$Well" "fracture" "I", .static yX2_mixed, .initialized RX2, .code yX2_mixed cX2_mixed 4 (some .long), .constantLong RX2 181 (31)] ++ wsX10)
def wsX1_mixedReadings_r1 : List Cond := [Cond.fieldLink RX1 65 "WellControl$Well" "gained" "I", Cond.fieldLink RX1 68 "WellControl$Well" "timesBroken" "I", Cond.fieldLink RX1 71 "WellControl$Well" "greatestAtShoe" "I", Cond.methodLink RX1 131 yX1_pressureAtPipe, Cond.instanceMethod yX1_pressureAtPipe, Cond.selects RX1 yX1_pressureAtPipe yX1_pressureAtPipe, Cond.initialized RX1, Cond.code yX1_pressureAtPipe cX1_pressureAtPipe 1 (some .int), Cond.fieldLink RX1 27 "WellControl$Well" "formation" "I", Cond.methodLink RX1 99 Lib.Math.max.name, Cond.static Lib.Math.max.name, Cond.initialized "java/lang/Math", Cond.code Lib.Math.max.name Lib.Math.max.code 2 (some .int), Cond.methodLink RX1 128 yX1_pressureOfWhole, Cond.instanceMethod yX1_pressureOfWhole, Cond.selects RX1 yX1_pressureOfWhole yX1_pressureOfWhole, Cond.code yX1_pressureOfWhole cX1_pressureOfWhole 2 (some .int), Cond.fieldLink RX1 108 "WellControl$Column" "load" "J", Cond.methodLink RX1 104 yX1_column, Cond.instanceMethod yX1_column, Cond.selects RX1 yX1_column yX1_column, Cond.code yX1_column cX1_column 2 (some (.object "WellControl$Column")), Cond.fieldLink RX1 41 "WellControl$Well" "pipe" "LWellControl$Column;", Cond.fieldLink RX1 45 "WellControl$Well" "annulus" "LWellControl$Column;"]
def wsX1_mixedReadings_r2 : List Cond := [Cond.methodLink RX1 112 yX1_capacity, Cond.instanceMethod yX1_capacity, Cond.selects RX1 yX1_capacity yX1_capacity, Cond.code yX1_capacity cX1_capacity 2 (some .int), Cond.fieldLink RX1 15 "WellControl$Well" "pipeCapacity" "I", Cond.fieldLink RX1 18 "WellControl$Well" "annulusCapacity" "I", Cond.methodLink RX1 116 yX1_pressureOf, Cond.static yX1_pressureOf, Cond.code yX1_pressureOf cX1_pressureOf 3 (some .int), Cond.constantLong RX1 124 (981), Cond.constantLong RX1 126 (100000), Cond.static yX2_mixed, Cond.initialized RX2, Cond.code yX2_mixed cX2_mixed 4 (some .long), Cond.constantLong RX2 181 (31), Cond.methodLink RX1 134 yX1_pressureAtCasing, Cond.instanceMethod yX1_pressureAtCasing, Cond.selects RX1 yX1_pressureAtCasing yX1_pressureAtCasing, Cond.code yX1_pressureAtCasing cX1_pressureAtCasing 1 (some .int), Cond.methodLink RX1 148 yX1_pressureAtStandpipe, Cond.instanceMethod yX1_pressureAtStandpipe, Cond.selects RX1 yX1_pressureAtStandpipe yX1_pressureAtStandpipe, Cond.code yX1_pressureAtStandpipe cX1_pressureAtStandpipe 1 (some .int), Cond.fieldLink RX1 30 "WellControl$Well" "slowPump" "I"]
def wsX1_mixedReadings_r3 : List Cond := [Cond.methodLink RX1 96 yX1_pressureAtShoe, Cond.instanceMethod yX1_pressureAtShoe, Cond.selects RX1 yX1_pressureAtShoe yX1_pressureAtShoe, Cond.code yX1_pressureAtShoe cX1_pressureAtShoe 1 (some .int), Cond.fieldLink RX1 21 "WellControl$Well" "shoe" "I", Cond.methodLink RX1 137 yX1_pressureOfPart, Cond.instanceMethod yX1_pressureOfPart, Cond.selects RX1 yX1_pressureOfPart yX1_pressureOfPart, Cond.code yX1_pressureOfPart cX1_pressureOfPart 4 (some .int), Cond.methodLink RX1 120 yX0_loadAbove, Cond.instanceMethod yX0_loadAbove, Cond.selects RX0 yX0_loadAbove yX0_loadAbove, Cond.initialized RX0, Cond.code yX0_loadAbove cX0_loadAbove 8 (some .long), Cond.fieldLink RX0 26 "WellControl$Column" "count" "I", Cond.fieldLink RX0 9 "WellControl$Column" "volumes" "[I", Cond.methodLink RX0 60 Lib.Math.min.name, Cond.static Lib.Math.min.name, Cond.code Lib.Math.min.name Lib.Math.min.code 2 (some .int), Cond.fieldLink RX0 15 "WellControl$Column" "densities" "[I", Cond.methodLink RX0 50 yX0_placeOfIndex, Cond.instanceMethod yX0_placeOfIndex, Cond.selects RX0 yX0_placeOfIndex yX0_placeOfIndex, Cond.code yX0_placeOfIndex cX0_placeOfIndex 3 (some .int)]
def wsX1_mixedReadings_r4 : List Cond := [Cond.fieldLink RX0 18 "WellControl$Column" "filledFromTop" "Z", Cond.fieldLink RX0 22 "WellControl$Column" "oldest" "I", Cond.methodLink RX0 44 yJ9_floorMod_7cf53, Cond.static yJ9_floorMod_7cf53, Cond.initialized RJ9, Cond.code yJ9_floorMod_7cf53 cJ9_floorMod_7cf53 3 (some .int)]
def wsX1_mixedReadings : List Cond := .code yX1_mixedReadings cX1_mixedReadings 3 (some .long) :: ((wsX1_mixedReadings_r1 ++ (wsX1_mixedReadings_r2 ++ (wsX1_mixedReadings_r3 ++ wsX1_mixedReadings_r4))) ++ wsX10 ++ wsX00)
def wsX2_init_r1 : List Cond := [Cond.methodLink RX2 1 objectInit, Cond.instanceMethod objectInit, Cond.code objectInit ⟨#[0xb1]⟩ 1 none, Cond.classLink RX2 7 RX1, Cond.instantiable RX1 13, Cond.initialized RX1, Cond.fieldLink RX2 10 "WellControl" "well" "LWellControl$Well;", Cond.fieldLink RX2 16 "WellControl" "trial" "LWellControl$Well;", Cond.fieldLink RX2 19 "WellControl" "saved" "[LWellControl$Well;", Cond.fieldLink RX2 23 "WellControl" "savedCount" "I", Cond.arrayClass .int, Cond.fieldLink RX2 27 "WellControl" "errors" "[I", Cond.methodLink RX2 9 yX1_init, Cond.instanceMethod yX1_init, Cond.code yX1_init cX1_init 1 none, Cond.methodLink RX1 3 objectInit, Cond.fieldLink RX1 9 "WellControl$Well" "depth" "I", Cond.fieldLink RX1 15 "WellControl$Well" "pipeCapacity" "I", Cond.fieldLink RX1 18 "WellControl$Well" "annulusCapacity" "I", Cond.fieldLink RX1 21 "WellControl$Well" "shoe" "I", Cond.fieldLink RX1 24 "WellControl$Well" "mud" "I", Cond.fieldLink RX1 27 "WellControl$Well" "formation" "I", Cond.fieldLink RX1 30 "WellControl$Well" "slowPump" "I", Cond.fieldLink RX1 33 "WellControl$Well" "fracture" "I"]
def wsX2_init_r2 : List Cond := [Cond.classLink RX1 36 RX0, Cond.instantiable RX0 6, Cond.initialized RX0, Cond.fieldLink RX1 41 "WellControl$Well" "pipe" "LWellControl$Column;", Cond.fieldLink RX1 45 "WellControl$Well" "annulus" "LWellControl$Column;", Cond.methodLink RX1 38 yX0_init, Cond.instanceMethod yX0_init, Cond.code yX0_init cX0_init 2 none, Cond.methodLink RX0 3 objectInit, Cond.fieldLink RX0 9 "WellControl$Column" "volumes" "[I", Cond.fieldLink RX0 15 "WellControl$Column" "densities" "[I", Cond.fieldLink RX0 18 "WellControl$Column" "filledFromTop" "Z", Cond.methodLink RX1 48 yX1_startAnew, Cond.instanceMethod yX1_startAnew, Cond.selects RX1 yX1_startAnew yX1_startAnew, Cond.code yX1_startAnew cX1_startAnew 1 none, Cond.fieldLink RX1 65 "WellControl$Well" "gained" "I", Cond.fieldLink RX1 68 "WellControl$Well" "timesBroken" "I", Cond.fieldLink RX1 71 "WellControl$Well" "greatestAtShoe" "I", Cond.methodLink RX1 51 yX0_clear, Cond.instanceMethod yX0_clear, Cond.selects RX0 yX0_clear yX0_clear, Cond.code yX0_clear cX0_clear 1 none, Cond.fieldLink RX0 22 "WellControl$Column" "oldest" "I"]
def wsX2_init_r3 : List Cond := [Cond.fieldLink RX0 26 "WellControl$Column" "count" "I", Cond.fieldLink RX0 29 "WellControl$Column" "load" "J", Cond.methodLink RX1 54 yX1_pipeVolume, Cond.instanceMethod yX1_pipeVolume, Cond.selects RX1 yX1_pipeVolume yX1_pipeVolume, Cond.code yX1_pipeVolume cX1_pipeVolume 1 (some .int), Cond.methodLink RX1 58 yX0_enter, Cond.instanceMethod yX0_enter, Cond.selects RX0 yX0_enter yX0_enter, Cond.code yX0_enter cX0_enter 4 none, Cond.methodLink RX0 53 yX0_joinsNewest, Cond.instanceMethod yX0_joinsNewest, Cond.selects RX0 yX0_joinsNewest yX0_joinsNewest, Cond.code yX0_joinsNewest cX0_joinsNewest 2 (some .boolean), Cond.methodLink RX0 36 yX0_placeOfAge, Cond.instanceMethod yX0_placeOfAge, Cond.selects RX0 yX0_placeOfAge yX0_placeOfAge, Cond.code yX0_placeOfAge cX0_placeOfAge 2 (some .int), Cond.methodLink RX0 44 yJ9_floorMod_7cf53, Cond.static yJ9_floorMod_7cf53, Cond.initialized RJ9, Cond.code yJ9_floorMod_7cf53 cJ9_floorMod_7cf53 3 (some .int), Cond.methodLink RX1 62 yX1_annulusVolume, Cond.instanceMethod yX1_annulusVolume]
def wsX2_init_r4 : List Cond := [Cond.selects RX1 yX1_annulusVolume yX1_annulusVolume, Cond.code yX1_annulusVolume cX1_annulusVolume 1 (some .int)]
def wsX2_init : List Cond := .code yX2_init cX2_init 2 none :: ((wsX2_init_r1 ++ (wsX2_init_r2 ++ (wsX2_init_r3 ++ wsX2_init_r4))) ++ wsX10 ++ wsX20 ++ wsX00)
def wsX2_within : List Cond := .code yX2_within cX2_within 3 (some .boolean) :: ([])
def wsX2_refuse : List Cond := .code yX2_refuse cX2_refuse 2 (some .int) :: ([.fieldLink RX2 27 "WellControl" "errors" "[I", .methodLink RX2 31 yX2_within, .static yX2_within, .initialized RX2, .code yX2_within cX2_within 3 (some .boolean)] ++ wsX20)
def wsX2_dropOldestSaved : List Cond := .code yX2_dropOldestSaved cX2_dropOldestSaved 3 none :: ([.fieldLink RX2 19 "WellControl" "saved" "[LWellControl$Well;", .fieldLink RX2 23 "WellControl" "savedCount" "I"] ++ wsX20)
def wsX2_save_r1 : List Cond := [Cond.fieldLink RX2 23 "WellControl" "savedCount" "I", Cond.fieldLink RX2 19 "WellControl" "saved" "[LWellControl$Well;", Cond.fieldLink RX2 10 "WellControl" "well" "LWellControl$Well;", Cond.methodLink RX2 183 yX2_dropOldestSaved, Cond.instanceMethod yX2_dropOldestSaved, Cond.selects RX2 yX2_dropOldestSaved yX2_dropOldestSaved, Cond.initialized RX2, Cond.code yX2_dropOldestSaved cX2_dropOldestSaved 3 none, Cond.methodLink RX2 113 yX1_copyFrom, Cond.instanceMethod yX1_copyFrom, Cond.selects RX1 yX1_copyFrom yX1_copyFrom, Cond.initialized RX1, Cond.code yX1_copyFrom cX1_copyFrom 2 none, Cond.fieldLink RX1 9 "WellControl$Well" "depth" "I", Cond.fieldLink RX1 15 "WellControl$Well" "pipeCapacity" "I", Cond.fieldLink RX1 18 "WellControl$Well" "annulusCapacity" "I", Cond.fieldLink RX1 21 "WellControl$Well" "shoe" "I", Cond.fieldLink RX1 24 "WellControl$Well" "mud" "I", Cond.fieldLink RX1 27 "WellControl$Well" "formation" "I", Cond.fieldLink RX1 30 "WellControl$Well" "slowPump" "I", Cond.fieldLink RX1 33 "WellControl$Well" "fracture" "I", Cond.fieldLink RX1 65 "WellControl$Well" "gained" "I", Cond.fieldLink RX1 68 "WellControl$Well" "timesBroken" "I", Cond.fieldLink RX1 71 "WellControl$Well" "greatestAtShoe" "I"]
def wsX2_save_r2 : List Cond := [Cond.fieldLink RX1 41 "WellControl$Well" "pipe" "LWellControl$Column;", Cond.fieldLink RX1 45 "WellControl$Well" "annulus" "LWellControl$Column;", Cond.methodLink RX1 74 yX0_copyFrom, Cond.instanceMethod yX0_copyFrom, Cond.selects RX0 yX0_copyFrom yX0_copyFrom, Cond.initialized RX0, Cond.code yX0_copyFrom cX0_copyFrom 4 none, Cond.fieldLink RX0 26 "WellControl$Column" "count" "I", Cond.fieldLink RX0 9 "WellControl$Column" "volumes" "[I", Cond.fieldLink RX0 15 "WellControl$Column" "densities" "[I", Cond.methodLink RX0 33 yX0_clear, Cond.instanceMethod yX0_clear, Cond.selects RX0 yX0_clear yX0_clear, Cond.code yX0_clear cX0_clear 1 none, Cond.fieldLink RX0 22 "WellControl$Column" "oldest" "I", Cond.fieldLink RX0 29 "WellControl$Column" "load" "J", Cond.methodLink RX0 36 yX0_placeOfAge, Cond.instanceMethod yX0_placeOfAge, Cond.selects RX0 yX0_placeOfAge yX0_placeOfAge, Cond.code yX0_placeOfAge cX0_placeOfAge 2 (some .int), Cond.methodLink RX0 44 yJ9_floorMod_7cf53, Cond.static yJ9_floorMod_7cf53, Cond.initialized RJ9, Cond.code yJ9_floorMod_7cf53 cJ9_floorMod_7cf53 3 (some .int)]
def wsX2_save_r3 : List Cond := [Cond.methodLink RX0 40 yX0_enter, Cond.instanceMethod yX0_enter, Cond.selects RX0 yX0_enter yX0_enter, Cond.code yX0_enter cX0_enter 4 none, Cond.methodLink RX0 53 yX0_joinsNewest, Cond.instanceMethod yX0_joinsNewest, Cond.selects RX0 yX0_joinsNewest yX0_joinsNewest, Cond.code yX0_joinsNewest cX0_joinsNewest 2 (some .boolean)]
def wsX2_save : List Cond := .code yX2_save cX2_save 1 none :: ((wsX2_save_r1 ++ (wsX2_save_r2 ++ wsX2_save_r3)) ++ wsX20 ++ wsX10 ++ wsX00)
def wsX2_setGeometry_r1 : List Cond := [Cond.fieldLink RX2 10 "WellControl" "well" "LWellControl$Well;", Cond.fieldLink RX2 42 "WellControl$Well" "depth" "I", Cond.fieldLink RX2 45 "WellControl$Well" "pipeCapacity" "I", Cond.fieldLink RX2 48 "WellControl$Well" "annulusCapacity" "I", Cond.fieldLink RX2 51 "WellControl$Well" "shoe" "I", Cond.methodLink RX2 31 yX2_within, Cond.static yX2_within, Cond.initialized RX2, Cond.code yX2_within cX2_within 3 (some .boolean), Cond.methodLink RX2 35 yX2_refuse, Cond.instanceMethod yX2_refuse, Cond.selects RX2 yX2_refuse yX2_refuse, Cond.code yX2_refuse cX2_refuse 2 (some .int), Cond.fieldLink RX2 27 "WellControl" "errors" "[I", Cond.methodLink RX2 39 yX2_save, Cond.instanceMethod yX2_save, Cond.selects RX2 yX2_save yX2_save, Cond.code yX2_save cX2_save 1 none, Cond.fieldLink RX2 23 "WellControl" "savedCount" "I", Cond.fieldLink RX2 19 "WellControl" "saved" "[LWellControl$Well;", Cond.methodLink RX2 183 yX2_dropOldestSaved, Cond.instanceMethod yX2_dropOldestSaved, Cond.selects RX2 yX2_dropOldestSaved yX2_dropOldestSaved, Cond.code yX2_dropOldestSaved cX2_dropOldestSaved 3 none]
def wsX2_setGeometry_r2 : List Cond := [Cond.methodLink RX2 113 yX1_copyFrom, Cond.instanceMethod yX1_copyFrom, Cond.selects RX1 yX1_copyFrom yX1_copyFrom, Cond.initialized RX1, Cond.code yX1_copyFrom cX1_copyFrom 2 none, Cond.fieldLink RX1 9 "WellControl$Well" "depth" "I", Cond.fieldLink RX1 15 "WellControl$Well" "pipeCapacity" "I", Cond.fieldLink RX1 18 "WellControl$Well" "annulusCapacity" "I", Cond.fieldLink RX1 21 "WellControl$Well" "shoe" "I", Cond.fieldLink RX1 24 "WellControl$Well" "mud" "I", Cond.fieldLink RX1 27 "WellControl$Well" "formation" "I", Cond.fieldLink RX1 30 "WellControl$Well" "slowPump" "I", Cond.fieldLink RX1 33 "WellControl$Well" "fracture" "I", Cond.fieldLink RX1 65 "WellControl$Well" "gained" "I", Cond.fieldLink RX1 68 "WellControl$Well" "timesBroken" "I", Cond.fieldLink RX1 71 "WellControl$Well" "greatestAtShoe" "I", Cond.fieldLink RX1 41 "WellControl$Well" "pipe" "LWellControl$Column;", Cond.fieldLink RX1 45 "WellControl$Well" "annulus" "LWellControl$Column;", Cond.methodLink RX1 74 yX0_copyFrom, Cond.instanceMethod yX0_copyFrom, Cond.selects RX0 yX0_copyFrom yX0_copyFrom, Cond.initialized RX0, Cond.code yX0_copyFrom cX0_copyFrom 4 none, Cond.fieldLink RX0 26 "WellControl$Column" "count" "I"]
def wsX2_setGeometry_r3 : List Cond := [Cond.fieldLink RX0 9 "WellControl$Column" "volumes" "[I", Cond.fieldLink RX0 15 "WellControl$Column" "densities" "[I", Cond.methodLink RX0 33 yX0_clear, Cond.instanceMethod yX0_clear, Cond.selects RX0 yX0_clear yX0_clear, Cond.code yX0_clear cX0_clear 1 none, Cond.fieldLink RX0 22 "WellControl$Column" "oldest" "I", Cond.fieldLink RX0 29 "WellControl$Column" "load" "J", Cond.methodLink RX0 36 yX0_placeOfAge, Cond.instanceMethod yX0_placeOfAge, Cond.selects RX0 yX0_placeOfAge yX0_placeOfAge, Cond.code yX0_placeOfAge cX0_placeOfAge 2 (some .int), Cond.methodLink RX0 44 yJ9_floorMod_7cf53, Cond.static yJ9_floorMod_7cf53, Cond.initialized RJ9, Cond.code yJ9_floorMod_7cf53 cJ9_floorMod_7cf53 3 (some .int), Cond.methodLink RX0 40 yX0_enter, Cond.instanceMethod yX0_enter, Cond.selects RX0 yX0_enter yX0_enter, Cond.code yX0_enter cX0_enter 4 none, Cond.methodLink RX0 53 yX0_joinsNewest, Cond.instanceMethod yX0_joinsNewest, Cond.selects RX0 yX0_joinsNewest yX0_joinsNewest, Cond.code yX0_joinsNewest cX0_joinsNewest 2 (some .boolean)]
def wsX2_setGeometry_r4 : List Cond := [Cond.methodLink RX2 54 yX1_startAnew, Cond.instanceMethod yX1_startAnew, Cond.selects RX1 yX1_startAnew yX1_startAnew, Cond.code yX1_startAnew cX1_startAnew 1 none, Cond.methodLink RX1 51 yX0_clear, Cond.methodLink RX1 54 yX1_pipeVolume, Cond.instanceMethod yX1_pipeVolume, Cond.selects RX1 yX1_pipeVolume yX1_pipeVolume, Cond.code yX1_pipeVolume cX1_pipeVolume 1 (some .int), Cond.methodLink RX1 58 yX0_enter, Cond.methodLink RX1 62 yX1_annulusVolume, Cond.instanceMethod yX1_annulusVolume, Cond.selects RX1 yX1_annulusVolume yX1_annulusVolume, Cond.code yX1_annulusVolume cX1_annulusVolume 1 (some .int), Cond.methodLink RX2 57 yX1_pipeVolume, Cond.methodLink RX2 61 yX1_annulusVolume]
def wsX2_setGeometry : List Cond := .code yX2_setGeometry cX2_setGeometry 6 (some .int) :: ((wsX2_setGeometry_r1 ++ (wsX2_setGeometry_r2 ++ (wsX2_setGeometry_r3 ++ wsX2_setGeometry_r4))) ++ wsX20 ++ wsX10 ++ wsX00)
def wsX2_setMud_r1 : List Cond := [Cond.fieldLink RX2 10 "WellControl" "well" "LWellControl$Well;", Cond.fieldLink RX2 64 "WellControl$Well" "mud" "I", Cond.methodLink RX2 31 yX2_within, Cond.static yX2_within, Cond.initialized RX2, Cond.code yX2_within cX2_within 3 (some .boolean), Cond.methodLink RX2 35 yX2_refuse, Cond.instanceMethod yX2_refuse, Cond.selects RX2 yX2_refuse yX2_refuse, Cond.code yX2_refuse cX2_refuse 2 (some .int), Cond.fieldLink RX2 27 "WellControl" "errors" "[I", Cond.methodLink RX2 39 yX2_save, Cond.instanceMethod yX2_save, Cond.selects RX2 yX2_save yX2_save, Cond.code yX2_save cX2_save 1 none, Cond.fieldLink RX2 23 "WellControl" "savedCount" "I", Cond.fieldLink RX2 19 "WellControl" "saved" "[LWellControl$Well;", Cond.methodLink RX2 183 yX2_dropOldestSaved, Cond.instanceMethod yX2_dropOldestSaved, Cond.selects RX2 yX2_dropOldestSaved yX2_dropOldestSaved, Cond.code yX2_dropOldestSaved cX2_dropOldestSaved 3 none, Cond.methodLink RX2 113 yX1_copyFrom, Cond.instanceMethod yX1_copyFrom, Cond.selects RX1 yX1_copyFrom yX1_copyFrom]
def wsX2_setMud_r2 : List Cond := [Cond.initialized RX1, Cond.code yX1_copyFrom cX1_copyFrom 2 none, Cond.fieldLink RX1 9 "WellControl$Well" "depth" "I", Cond.fieldLink RX1 15 "WellControl$Well" "pipeCapacity" "I", Cond.fieldLink RX1 18 "WellControl$Well" "annulusCapacity" "I", Cond.fieldLink RX1 21 "WellControl$Well" "shoe" "I", Cond.fieldLink RX1 24 "WellControl$Well" "mud" "I", Cond.fieldLink RX1 27 "WellControl$Well" "formation" "I", Cond.fieldLink RX1 30 "WellControl$Well" "slowPump" "I", Cond.fieldLink RX1 33 "WellControl$Well" "fracture" "I", Cond.fieldLink RX1 65 "WellControl$Well" "gained" "I", Cond.fieldLink RX1 68 "WellControl$Well" "timesBroken" "I", Cond.fieldLink RX1 71 "WellControl$Well" "greatestAtShoe" "I", Cond.fieldLink RX1 41 "WellControl$Well" "pipe" "LWellControl$Column;", Cond.fieldLink RX1 45 "WellControl$Well" "annulus" "LWellControl$Column;", Cond.methodLink RX1 74 yX0_copyFrom, Cond.instanceMethod yX0_copyFrom, Cond.selects RX0 yX0_copyFrom yX0_copyFrom, Cond.initialized RX0, Cond.code yX0_copyFrom cX0_copyFrom 4 none, Cond.fieldLink RX0 26 "WellControl$Column" "count" "I", Cond.fieldLink RX0 9 "WellControl$Column" "volumes" "[I", Cond.fieldLink RX0 15 "WellControl$Column" "densities" "[I", Cond.methodLink RX0 33 yX0_clear]
def wsX2_setMud_r3 : List Cond := [Cond.instanceMethod yX0_clear, Cond.selects RX0 yX0_clear yX0_clear, Cond.code yX0_clear cX0_clear 1 none, Cond.fieldLink RX0 22 "WellControl$Column" "oldest" "I", Cond.fieldLink RX0 29 "WellControl$Column" "load" "J", Cond.methodLink RX0 36 yX0_placeOfAge, Cond.instanceMethod yX0_placeOfAge, Cond.selects RX0 yX0_placeOfAge yX0_placeOfAge, Cond.code yX0_placeOfAge cX0_placeOfAge 2 (some .int), Cond.methodLink RX0 44 yJ9_floorMod_7cf53, Cond.static yJ9_floorMod_7cf53, Cond.initialized RJ9, Cond.code yJ9_floorMod_7cf53 cJ9_floorMod_7cf53 3 (some .int), Cond.methodLink RX0 40 yX0_enter, Cond.instanceMethod yX0_enter, Cond.selects RX0 yX0_enter yX0_enter, Cond.code yX0_enter cX0_enter 4 none, Cond.methodLink RX0 53 yX0_joinsNewest, Cond.instanceMethod yX0_joinsNewest, Cond.selects RX0 yX0_joinsNewest yX0_joinsNewest, Cond.code yX0_joinsNewest cX0_joinsNewest 2 (some .boolean)]
def wsX2_setMud : List Cond := .code yX2_setMud cX2_setMud 3 (some .int) :: ((wsX2_setMud_r1 ++ (wsX2_setMud_r2 ++ wsX2_setMud_r3)) ++ wsX20 ++ wsX10 ++ wsX00)
def wsX2_setFormation_r1 : List Cond := [Cond.constant RX2 67 (60000), Cond.fieldLink RX2 10 "WellControl" "well" "LWellControl$Well;", Cond.fieldLink RX2 68 "WellControl$Well" "formation" "I", Cond.methodLink RX2 31 yX2_within, Cond.static yX2_within, Cond.initialized RX2, Cond.code yX2_within cX2_within 3 (some .boolean), Cond.methodLink RX2 35 yX2_refuse, Cond.instanceMethod yX2_refuse, Cond.selects RX2 yX2_refuse yX2_refuse, Cond.code yX2_refuse cX2_refuse 2 (some .int), Cond.fieldLink RX2 27 "WellControl" "errors" "[I", Cond.methodLink RX2 39 yX2_save, Cond.instanceMethod yX2_save, Cond.selects RX2 yX2_save yX2_save, Cond.code yX2_save cX2_save 1 none, Cond.fieldLink RX2 23 "WellControl" "savedCount" "I", Cond.fieldLink RX2 19 "WellControl" "saved" "[LWellControl$Well;", Cond.methodLink RX2 183 yX2_dropOldestSaved, Cond.instanceMethod yX2_dropOldestSaved, Cond.selects RX2 yX2_dropOldestSaved yX2_dropOldestSaved, Cond.code yX2_dropOldestSaved cX2_dropOldestSaved 3 none, Cond.methodLink RX2 113 yX1_copyFrom, Cond.instanceMethod yX1_copyFrom]
def wsX2_setFormation_r2 : List Cond := [Cond.selects RX1 yX1_copyFrom yX1_copyFrom, Cond.initialized RX1, Cond.code yX1_copyFrom cX1_copyFrom 2 none, Cond.fieldLink RX1 9 "WellControl$Well" "depth" "I", Cond.fieldLink RX1 15 "WellControl$Well" "pipeCapacity" "I", Cond.fieldLink RX1 18 "WellControl$Well" "annulusCapacity" "I", Cond.fieldLink RX1 21 "WellControl$Well" "shoe" "I", Cond.fieldLink RX1 24 "WellControl$Well" "mud" "I", Cond.fieldLink RX1 27 "WellControl$Well" "formation" "I", Cond.fieldLink RX1 30 "WellControl$Well" "slowPump" "I", Cond.fieldLink RX1 33 "WellControl$Well" "fracture" "I", Cond.fieldLink RX1 65 "WellControl$Well" "gained" "I", Cond.fieldLink RX1 68 "WellControl$Well" "timesBroken" "I", Cond.fieldLink RX1 71 "WellControl$Well" "greatestAtShoe" "I", Cond.fieldLink RX1 41 "WellControl$Well" "pipe" "LWellControl$Column;", Cond.fieldLink RX1 45 "WellControl$Well" "annulus" "LWellControl$Column;", Cond.methodLink RX1 74 yX0_copyFrom, Cond.instanceMethod yX0_copyFrom, Cond.selects RX0 yX0_copyFrom yX0_copyFrom, Cond.initialized RX0, Cond.code yX0_copyFrom cX0_copyFrom 4 none, Cond.fieldLink RX0 26 "WellControl$Column" "count" "I", Cond.fieldLink RX0 9 "WellControl$Column" "volumes" "[I", Cond.fieldLink RX0 15 "WellControl$Column" "densities" "[I"]
def wsX2_setFormation_r3 : List Cond := [Cond.methodLink RX0 33 yX0_clear, Cond.instanceMethod yX0_clear, Cond.selects RX0 yX0_clear yX0_clear, Cond.code yX0_clear cX0_clear 1 none, Cond.fieldLink RX0 22 "WellControl$Column" "oldest" "I", Cond.fieldLink RX0 29 "WellControl$Column" "load" "J", Cond.methodLink RX0 36 yX0_placeOfAge, Cond.instanceMethod yX0_placeOfAge, Cond.selects RX0 yX0_placeOfAge yX0_placeOfAge, Cond.code yX0_placeOfAge cX0_placeOfAge 2 (some .int), Cond.methodLink RX0 44 yJ9_floorMod_7cf53, Cond.static yJ9_floorMod_7cf53, Cond.initialized RJ9, Cond.code yJ9_floorMod_7cf53 cJ9_floorMod_7cf53 3 (some .int), Cond.methodLink RX0 40 yX0_enter, Cond.instanceMethod yX0_enter, Cond.selects RX0 yX0_enter yX0_enter, Cond.code yX0_enter cX0_enter 4 none, Cond.methodLink RX0 53 yX0_joinsNewest, Cond.instanceMethod yX0_joinsNewest, Cond.selects RX0 yX0_joinsNewest yX0_joinsNewest, Cond.code yX0_joinsNewest cX0_joinsNewest 2 (some .boolean)]
def wsX2_setFormation : List Cond := .code yX2_setFormation cX2_setFormation 3 (some .int) :: ((wsX2_setFormation_r1 ++ (wsX2_setFormation_r2 ++ wsX2_setFormation_r3)) ++ wsX20 ++ wsX10 ++ wsX00)
def wsX2_setSlowPump_r1 : List Cond := [Cond.fieldLink RX2 10 "WellControl" "well" "LWellControl$Well;", Cond.fieldLink RX2 71 "WellControl$Well" "slowPump" "I", Cond.methodLink RX2 31 yX2_within, Cond.static yX2_within, Cond.initialized RX2, Cond.code yX2_within cX2_within 3 (some .boolean), Cond.methodLink RX2 35 yX2_refuse, Cond.instanceMethod yX2_refuse, Cond.selects RX2 yX2_refuse yX2_refuse, Cond.code yX2_refuse cX2_refuse 2 (some .int), Cond.fieldLink RX2 27 "WellControl" "errors" "[I", Cond.methodLink RX2 39 yX2_save, Cond.instanceMethod yX2_save, Cond.selects RX2 yX2_save yX2_save, Cond.code yX2_save cX2_save 1 none, Cond.fieldLink RX2 23 "WellControl" "savedCount" "I", Cond.fieldLink RX2 19 "WellControl" "saved" "[LWellControl$Well;", Cond.methodLink RX2 183 yX2_dropOldestSaved, Cond.instanceMethod yX2_dropOldestSaved, Cond.selects RX2 yX2_dropOldestSaved yX2_dropOldestSaved, Cond.code yX2_dropOldestSaved cX2_dropOldestSaved 3 none, Cond.methodLink RX2 113 yX1_copyFrom, Cond.instanceMethod yX1_copyFrom, Cond.selects RX1 yX1_copyFrom yX1_copyFrom]
def wsX2_setSlowPump_r2 : List Cond := [Cond.initialized RX1, Cond.code yX1_copyFrom cX1_copyFrom 2 none, Cond.fieldLink RX1 9 "WellControl$Well" "depth" "I", Cond.fieldLink RX1 15 "WellControl$Well" "pipeCapacity" "I", Cond.fieldLink RX1 18 "WellControl$Well" "annulusCapacity" "I", Cond.fieldLink RX1 21 "WellControl$Well" "shoe" "I", Cond.fieldLink RX1 24 "WellControl$Well" "mud" "I", Cond.fieldLink RX1 27 "WellControl$Well" "formation" "I", Cond.fieldLink RX1 30 "WellControl$Well" "slowPump" "I", Cond.fieldLink RX1 33 "WellControl$Well" "fracture" "I", Cond.fieldLink RX1 65 "WellControl$Well" "gained" "I", Cond.fieldLink RX1 68 "WellControl$Well" "timesBroken" "I", Cond.fieldLink RX1 71 "WellControl$Well" "greatestAtShoe" "I", Cond.fieldLink RX1 41 "WellControl$Well" "pipe" "LWellControl$Column;", Cond.fieldLink RX1 45 "WellControl$Well" "annulus" "LWellControl$Column;", Cond.methodLink RX1 74 yX0_copyFrom, Cond.instanceMethod yX0_copyFrom, Cond.selects RX0 yX0_copyFrom yX0_copyFrom, Cond.initialized RX0, Cond.code yX0_copyFrom cX0_copyFrom 4 none, Cond.fieldLink RX0 26 "WellControl$Column" "count" "I", Cond.fieldLink RX0 9 "WellControl$Column" "volumes" "[I", Cond.fieldLink RX0 15 "WellControl$Column" "densities" "[I", Cond.methodLink RX0 33 yX0_clear]
def wsX2_setSlowPump_r3 : List Cond := [Cond.instanceMethod yX0_clear, Cond.selects RX0 yX0_clear yX0_clear, Cond.code yX0_clear cX0_clear 1 none, Cond.fieldLink RX0 22 "WellControl$Column" "oldest" "I", Cond.fieldLink RX0 29 "WellControl$Column" "load" "J", Cond.methodLink RX0 36 yX0_placeOfAge, Cond.instanceMethod yX0_placeOfAge, Cond.selects RX0 yX0_placeOfAge yX0_placeOfAge, Cond.code yX0_placeOfAge cX0_placeOfAge 2 (some .int), Cond.methodLink RX0 44 yJ9_floorMod_7cf53, Cond.static yJ9_floorMod_7cf53, Cond.initialized RJ9, Cond.code yJ9_floorMod_7cf53 cJ9_floorMod_7cf53 3 (some .int), Cond.methodLink RX0 40 yX0_enter, Cond.instanceMethod yX0_enter, Cond.selects RX0 yX0_enter yX0_enter, Cond.code yX0_enter cX0_enter 4 none, Cond.methodLink RX0 53 yX0_joinsNewest, Cond.instanceMethod yX0_joinsNewest, Cond.selects RX0 yX0_joinsNewest yX0_joinsNewest, Cond.code yX0_joinsNewest cX0_joinsNewest 2 (some .boolean)]
def wsX2_setSlowPump : List Cond := .code yX2_setSlowPump cX2_setSlowPump 3 (some .int) :: ((wsX2_setSlowPump_r1 ++ (wsX2_setSlowPump_r2 ++ wsX2_setSlowPump_r3)) ++ wsX20 ++ wsX10 ++ wsX00)
def wsX2_setFracture_r1 : List Cond := [Cond.constant RX2 67 (60000), Cond.fieldLink RX2 10 "WellControl" "well" "LWellControl$Well;", Cond.fieldLink RX2 74 "WellControl$Well" "fracture" "I", Cond.methodLink RX2 31 yX2_within, Cond.static yX2_within, Cond.initialized RX2, Cond.code yX2_within cX2_within 3 (some .boolean), Cond.methodLink RX2 35 yX2_refuse, Cond.instanceMethod yX2_refuse, Cond.selects RX2 yX2_refuse yX2_refuse, Cond.code yX2_refuse cX2_refuse 2 (some .int), Cond.fieldLink RX2 27 "WellControl" "errors" "[I", Cond.methodLink RX2 39 yX2_save, Cond.instanceMethod yX2_save, Cond.selects RX2 yX2_save yX2_save, Cond.code yX2_save cX2_save 1 none, Cond.fieldLink RX2 23 "WellControl" "savedCount" "I", Cond.fieldLink RX2 19 "WellControl" "saved" "[LWellControl$Well;", Cond.methodLink RX2 183 yX2_dropOldestSaved, Cond.instanceMethod yX2_dropOldestSaved, Cond.selects RX2 yX2_dropOldestSaved yX2_dropOldestSaved, Cond.code yX2_dropOldestSaved cX2_dropOldestSaved 3 none, Cond.methodLink RX2 113 yX1_copyFrom, Cond.instanceMethod yX1_copyFrom]
def wsX2_setFracture_r2 : List Cond := [Cond.selects RX1 yX1_copyFrom yX1_copyFrom, Cond.initialized RX1, Cond.code yX1_copyFrom cX1_copyFrom 2 none, Cond.fieldLink RX1 9 "WellControl$Well" "depth" "I", Cond.fieldLink RX1 15 "WellControl$Well" "pipeCapacity" "I", Cond.fieldLink RX1 18 "WellControl$Well" "annulusCapacity" "I", Cond.fieldLink RX1 21 "WellControl$Well" "shoe" "I", Cond.fieldLink RX1 24 "WellControl$Well" "mud" "I", Cond.fieldLink RX1 27 "WellControl$Well" "formation" "I", Cond.fieldLink RX1 30 "WellControl$Well" "slowPump" "I", Cond.fieldLink RX1 33 "WellControl$Well" "fracture" "I", Cond.fieldLink RX1 65 "WellControl$Well" "gained" "I", Cond.fieldLink RX1 68 "WellControl$Well" "timesBroken" "I", Cond.fieldLink RX1 71 "WellControl$Well" "greatestAtShoe" "I", Cond.fieldLink RX1 41 "WellControl$Well" "pipe" "LWellControl$Column;", Cond.fieldLink RX1 45 "WellControl$Well" "annulus" "LWellControl$Column;", Cond.methodLink RX1 74 yX0_copyFrom, Cond.instanceMethod yX0_copyFrom, Cond.selects RX0 yX0_copyFrom yX0_copyFrom, Cond.initialized RX0, Cond.code yX0_copyFrom cX0_copyFrom 4 none, Cond.fieldLink RX0 26 "WellControl$Column" "count" "I", Cond.fieldLink RX0 9 "WellControl$Column" "volumes" "[I", Cond.fieldLink RX0 15 "WellControl$Column" "densities" "[I"]
def wsX2_setFracture_r3 : List Cond := [Cond.methodLink RX0 33 yX0_clear, Cond.instanceMethod yX0_clear, Cond.selects RX0 yX0_clear yX0_clear, Cond.code yX0_clear cX0_clear 1 none, Cond.fieldLink RX0 22 "WellControl$Column" "oldest" "I", Cond.fieldLink RX0 29 "WellControl$Column" "load" "J", Cond.methodLink RX0 36 yX0_placeOfAge, Cond.instanceMethod yX0_placeOfAge, Cond.selects RX0 yX0_placeOfAge yX0_placeOfAge, Cond.code yX0_placeOfAge cX0_placeOfAge 2 (some .int), Cond.methodLink RX0 44 yJ9_floorMod_7cf53, Cond.static yJ9_floorMod_7cf53, Cond.initialized RJ9, Cond.code yJ9_floorMod_7cf53 cJ9_floorMod_7cf53 3 (some .int), Cond.methodLink RX0 40 yX0_enter, Cond.instanceMethod yX0_enter, Cond.selects RX0 yX0_enter yX0_enter, Cond.code yX0_enter cX0_enter 4 none, Cond.methodLink RX0 53 yX0_joinsNewest, Cond.instanceMethod yX0_joinsNewest, Cond.selects RX0 yX0_joinsNewest yX0_joinsNewest, Cond.code yX0_joinsNewest cX0_joinsNewest 2 (some .boolean)]
def wsX2_setFracture : List Cond := .code yX2_setFracture cX2_setFracture 3 (some .int) :: ((wsX2_setFracture_r1 ++ (wsX2_setFracture_r2 ++ wsX2_setFracture_r3)) ++ wsX20 ++ wsX10 ++ wsX00)
def wsX2_pump_r1 : List Cond := [Cond.fieldLink RX2 10 "WellControl" "well" "LWellControl$Well;", Cond.fieldLink RX2 64 "WellControl$Well" "mud" "I", Cond.methodLink RX2 35 yX2_refuse, Cond.instanceMethod yX2_refuse, Cond.selects RX2 yX2_refuse yX2_refuse, Cond.initialized RX2, Cond.code yX2_refuse cX2_refuse 2 (some .int), Cond.fieldLink RX2 27 "WellControl" "errors" "[I", Cond.methodLink RX2 31 yX2_within, Cond.static yX2_within, Cond.code yX2_within cX2_within 3 (some .boolean), Cond.methodLink RX2 77 yX1_canCirculate, Cond.instanceMethod yX1_canCirculate, Cond.selects RX1 yX1_canCirculate yX1_canCirculate, Cond.initialized RX1, Cond.code yX1_canCirculate cX1_canCirculate 2 (some .boolean), Cond.methodLink RX1 54 yX1_pipeVolume, Cond.instanceMethod yX1_pipeVolume, Cond.selects RX1 yX1_pipeVolume yX1_pipeVolume, Cond.code yX1_pipeVolume cX1_pipeVolume 1 (some .int), Cond.fieldLink RX1 9 "WellControl$Well" "depth" "I", Cond.fieldLink RX1 15 "WellControl$Well" "pipeCapacity" "I", Cond.methodLink RX1 62 yX1_annulusVolume, Cond.instanceMethod yX1_annulusVolume]
def wsX2_pump_r2 : List Cond := [Cond.selects RX1 yX1_annulusVolume yX1_annulusVolume, Cond.code yX1_annulusVolume cX1_annulusVolume 1 (some .int), Cond.fieldLink RX1 18 "WellControl$Well" "annulusCapacity" "I", Cond.methodLink RX2 39 yX2_save, Cond.instanceMethod yX2_save, Cond.selects RX2 yX2_save yX2_save, Cond.code yX2_save cX2_save 1 none, Cond.fieldLink RX2 23 "WellControl" "savedCount" "I", Cond.fieldLink RX2 19 "WellControl" "saved" "[LWellControl$Well;", Cond.methodLink RX2 183 yX2_dropOldestSaved, Cond.instanceMethod yX2_dropOldestSaved, Cond.selects RX2 yX2_dropOldestSaved yX2_dropOldestSaved, Cond.code yX2_dropOldestSaved cX2_dropOldestSaved 3 none, Cond.methodLink RX2 113 yX1_copyFrom, Cond.instanceMethod yX1_copyFrom, Cond.selects RX1 yX1_copyFrom yX1_copyFrom, Cond.code yX1_copyFrom cX1_copyFrom 2 none, Cond.fieldLink RX1 21 "WellControl$Well" "shoe" "I", Cond.fieldLink RX1 24 "WellControl$Well" "mud" "I", Cond.fieldLink RX1 27 "WellControl$Well" "formation" "I", Cond.fieldLink RX1 30 "WellControl$Well" "slowPump" "I", Cond.fieldLink RX1 33 "WellControl$Well" "fracture" "I", Cond.fieldLink RX1 65 "WellControl$Well" "gained" "I", Cond.fieldLink RX1 68 "WellControl$Well" "timesBroken" "I"]
def wsX2_pump_r3 : List Cond := [Cond.fieldLink RX1 71 "WellControl$Well" "greatestAtShoe" "I", Cond.fieldLink RX1 41 "WellControl$Well" "pipe" "LWellControl$Column;", Cond.fieldLink RX1 45 "WellControl$Well" "annulus" "LWellControl$Column;", Cond.methodLink RX1 74 yX0_copyFrom, Cond.instanceMethod yX0_copyFrom, Cond.selects RX0 yX0_copyFrom yX0_copyFrom, Cond.initialized RX0, Cond.code yX0_copyFrom cX0_copyFrom 4 none, Cond.fieldLink RX0 26 "WellControl$Column" "count" "I", Cond.fieldLink RX0 9 "WellControl$Column" "volumes" "[I", Cond.fieldLink RX0 15 "WellControl$Column" "densities" "[I", Cond.methodLink RX0 33 yX0_clear, Cond.instanceMethod yX0_clear, Cond.selects RX0 yX0_clear yX0_clear, Cond.code yX0_clear cX0_clear 1 none, Cond.fieldLink RX0 22 "WellControl$Column" "oldest" "I", Cond.fieldLink RX0 29 "WellControl$Column" "load" "J", Cond.methodLink RX0 36 yX0_placeOfAge, Cond.instanceMethod yX0_placeOfAge, Cond.selects RX0 yX0_placeOfAge yX0_placeOfAge, Cond.code yX0_placeOfAge cX0_placeOfAge 2 (some .int), Cond.methodLink RX0 44 yJ9_floorMod_7cf53, Cond.static yJ9_floorMod_7cf53, Cond.initialized RJ9]
def wsX2_pump_r4 : List Cond := [Cond.code yJ9_floorMod_7cf53 cJ9_floorMod_7cf53 3 (some .int), Cond.methodLink RX0 40 yX0_enter, Cond.instanceMethod yX0_enter, Cond.selects RX0 yX0_enter yX0_enter, Cond.code yX0_enter cX0_enter 4 none, Cond.methodLink RX0 53 yX0_joinsNewest, Cond.instanceMethod yX0_joinsNewest, Cond.selects RX0 yX0_joinsNewest yX0_joinsNewest, Cond.code yX0_joinsNewest cX0_joinsNewest 2 (some .boolean), Cond.methodLink RX2 81 yX1_circulate, Cond.instanceMethod yX1_circulate, Cond.selects RX1 yX1_circulate yX1_circulate, Cond.code yX1_circulate cX1_circulate 3 none, Cond.methodLink RX1 78 yX0_release, Cond.instanceMethod yX0_release, Cond.selects RX0 yX0_release yX0_release, Cond.code yX0_release cX0_release 4 none, Cond.methodLink RX0 57 yX0_releaseOldest, Cond.instanceMethod yX0_releaseOldest, Cond.selects RX0 yX0_releaseOldest yX0_releaseOldest, Cond.code yX0_releaseOldest cX0_releaseOldest 4 (some .int), Cond.methodLink RX0 60 Lib.Math.min.name, Cond.static Lib.Math.min.name, Cond.initialized "java/lang/Math"]
def wsX2_pump_r5 : List Cond := [Cond.code Lib.Math.min.name Lib.Math.min.code 2 (some .int), Cond.methodLink RX1 82 yX0_releaseInto, Cond.instanceMethod yX0_releaseInto, Cond.selects RX0 yX0_releaseInto yX0_releaseInto, Cond.code yX0_releaseInto cX0_releaseInto 7 none, Cond.methodLink RX1 58 yX0_enter, Cond.methodLink RX2 85 yX1_checkShoe, Cond.instanceMethod yX1_checkShoe, Cond.selects RX1 yX1_checkShoe yX1_checkShoe, Cond.code yX1_checkShoe cX1_checkShoe 2 none, Cond.methodLink RX1 99 Lib.Math.max.name, Cond.static Lib.Math.max.name, Cond.code Lib.Math.max.name Lib.Math.max.code 2 (some .int), Cond.methodLink RX1 96 yX1_pressureAtShoe, Cond.instanceMethod yX1_pressureAtShoe, Cond.selects RX1 yX1_pressureAtShoe yX1_pressureAtShoe, Cond.code yX1_pressureAtShoe cX1_pressureAtShoe 1 (some .int), Cond.methodLink RX1 134 yX1_pressureAtCasing, Cond.instanceMethod yX1_pressureAtCasing, Cond.selects RX1 yX1_pressureAtCasing yX1_pressureAtCasing, Cond.code yX1_pressureAtCasing cX1_pressureAtCasing 1 (some .int), Cond.methodLink RX1 128 yX1_pressureOfWhole, Cond.instanceMethod yX1_pressureOfWhole, Cond.selects RX1 yX1_pressureOfWhole yX1_pressureOfWhole]
def wsX2_pump_r6 : List Cond := [Cond.code yX1_pressureOfWhole cX1_pressureOfWhole 2 (some .int), Cond.fieldLink RX1 108 "WellControl$Column" "load" "J", Cond.methodLink RX1 104 yX1_column, Cond.instanceMethod yX1_column, Cond.selects RX1 yX1_column yX1_column, Cond.code yX1_column cX1_column 2 (some (.object "WellControl$Column")), Cond.methodLink RX1 112 yX1_capacity, Cond.instanceMethod yX1_capacity, Cond.selects RX1 yX1_capacity yX1_capacity, Cond.code yX1_capacity cX1_capacity 2 (some .int), Cond.methodLink RX1 116 yX1_pressureOf, Cond.static yX1_pressureOf, Cond.code yX1_pressureOf cX1_pressureOf 3 (some .int), Cond.constantLong RX1 124 (981), Cond.constantLong RX1 126 (100000), Cond.methodLink RX1 137 yX1_pressureOfPart, Cond.instanceMethod yX1_pressureOfPart, Cond.selects RX1 yX1_pressureOfPart yX1_pressureOfPart, Cond.code yX1_pressureOfPart cX1_pressureOfPart 4 (some .int), Cond.methodLink RX1 120 yX0_loadAbove, Cond.instanceMethod yX0_loadAbove, Cond.selects RX0 yX0_loadAbove yX0_loadAbove, Cond.code yX0_loadAbove cX0_loadAbove 8 (some .long), Cond.methodLink RX0 50 yX0_placeOfIndex]
def wsX2_pump_r7 : List Cond := [Cond.instanceMethod yX0_placeOfIndex, Cond.selects RX0 yX0_placeOfIndex yX0_placeOfIndex, Cond.code yX0_placeOfIndex cX0_placeOfIndex 3 (some .int), Cond.fieldLink RX0 18 "WellControl$Column" "filledFromTop" "Z", Cond.methodLink RX2 88 yX1_pressureAtCasing]
def wsX2_pump : List Cond := .code yX2_pump cX2_pump 2 (some .int) :: ((wsX2_pump_r1 ++ (wsX2_pump_r2 ++ (wsX2_pump_r3 ++ (wsX2_pump_r4 ++ (wsX2_pump_r5 ++ (wsX2_pump_r6 ++ wsX2_pump_r7)))))) ++ wsX20 ++ wsX10 ++ wsX00)
def wsX2_influx_r1 : List Cond := [Cond.fieldLink RX2 10 "WellControl" "well" "LWellControl$Well;", Cond.methodLink RX2 31 yX2_within, Cond.static yX2_within, Cond.initialized RX2, Cond.code yX2_within cX2_within 3 (some .boolean), Cond.methodLink RX2 35 yX2_refuse, Cond.instanceMethod yX2_refuse, Cond.selects RX2 yX2_refuse yX2_refuse, Cond.code yX2_refuse cX2_refuse 2 (some .int), Cond.fieldLink RX2 27 "WellControl" "errors" "[I", Cond.methodLink RX2 61 yX1_annulusVolume, Cond.instanceMethod yX1_annulusVolume, Cond.selects RX1 yX1_annulusVolume yX1_annulusVolume, Cond.initialized RX1, Cond.code yX1_annulusVolume cX1_annulusVolume 1 (some .int), Cond.fieldLink RX1 9 "WellControl$Well" "depth" "I", Cond.fieldLink RX1 18 "WellControl$Well" "annulusCapacity" "I", Cond.methodLink RX2 39 yX2_save, Cond.instanceMethod yX2_save, Cond.selects RX2 yX2_save yX2_save, Cond.code yX2_save cX2_save 1 none, Cond.fieldLink RX2 23 "WellControl" "savedCount" "I", Cond.fieldLink RX2 19 "WellControl" "saved" "[LWellControl$Well;", Cond.methodLink RX2 183 yX2_dropOldestSaved]
def wsX2_influx_r2 : List Cond := [Cond.instanceMethod yX2_dropOldestSaved, Cond.selects RX2 yX2_dropOldestSaved yX2_dropOldestSaved, Cond.code yX2_dropOldestSaved cX2_dropOldestSaved 3 none, Cond.methodLink RX2 113 yX1_copyFrom, Cond.instanceMethod yX1_copyFrom, Cond.selects RX1 yX1_copyFrom yX1_copyFrom, Cond.code yX1_copyFrom cX1_copyFrom 2 none, Cond.fieldLink RX1 15 "WellControl$Well" "pipeCapacity" "I", Cond.fieldLink RX1 21 "WellControl$Well" "shoe" "I", Cond.fieldLink RX1 24 "WellControl$Well" "mud" "I", Cond.fieldLink RX1 27 "WellControl$Well" "formation" "I", Cond.fieldLink RX1 30 "WellControl$Well" "slowPump" "I", Cond.fieldLink RX1 33 "WellControl$Well" "fracture" "I", Cond.fieldLink RX1 65 "WellControl$Well" "gained" "I", Cond.fieldLink RX1 68 "WellControl$Well" "timesBroken" "I", Cond.fieldLink RX1 71 "WellControl$Well" "greatestAtShoe" "I", Cond.fieldLink RX1 41 "WellControl$Well" "pipe" "LWellControl$Column;", Cond.fieldLink RX1 45 "WellControl$Well" "annulus" "LWellControl$Column;", Cond.methodLink RX1 74 yX0_copyFrom, Cond.instanceMethod yX0_copyFrom, Cond.selects RX0 yX0_copyFrom yX0_copyFrom, Cond.initialized RX0, Cond.code yX0_copyFrom cX0_copyFrom 4 none, Cond.fieldLink RX0 26 "WellControl$Column" "count" "I"]
def wsX2_influx_r3 : List Cond := [Cond.fieldLink RX0 9 "WellControl$Column" "volumes" "[I", Cond.fieldLink RX0 15 "WellControl$Column" "densities" "[I", Cond.methodLink RX0 33 yX0_clear, Cond.instanceMethod yX0_clear, Cond.selects RX0 yX0_clear yX0_clear, Cond.code yX0_clear cX0_clear 1 none, Cond.fieldLink RX0 22 "WellControl$Column" "oldest" "I", Cond.fieldLink RX0 29 "WellControl$Column" "load" "J", Cond.methodLink RX0 36 yX0_placeOfAge, Cond.instanceMethod yX0_placeOfAge, Cond.selects RX0 yX0_placeOfAge yX0_placeOfAge, Cond.code yX0_placeOfAge cX0_placeOfAge 2 (some .int), Cond.methodLink RX0 44 yJ9_floorMod_7cf53, Cond.static yJ9_floorMod_7cf53, Cond.initialized RJ9, Cond.code yJ9_floorMod_7cf53 cJ9_floorMod_7cf53 3 (some .int), Cond.methodLink RX0 40 yX0_enter, Cond.instanceMethod yX0_enter, Cond.selects RX0 yX0_enter yX0_enter, Cond.code yX0_enter cX0_enter 4 none, Cond.methodLink RX0 53 yX0_joinsNewest, Cond.instanceMethod yX0_joinsNewest, Cond.selects RX0 yX0_joinsNewest yX0_joinsNewest, Cond.code yX0_joinsNewest cX0_joinsNewest 2 (some .boolean)]
def wsX2_influx_r4 : List Cond := [Cond.methodLink RX2 91 yX1_letIn, Cond.instanceMethod yX1_letIn, Cond.selects RX1 yX1_letIn yX1_letIn, Cond.code yX1_letIn cX1_letIn 3 none, Cond.methodLink RX1 78 yX0_release, Cond.instanceMethod yX0_release, Cond.selects RX0 yX0_release yX0_release, Cond.code yX0_release cX0_release 4 none, Cond.methodLink RX0 57 yX0_releaseOldest, Cond.instanceMethod yX0_releaseOldest, Cond.selects RX0 yX0_releaseOldest yX0_releaseOldest, Cond.code yX0_releaseOldest cX0_releaseOldest 4 (some .int), Cond.methodLink RX0 60 Lib.Math.min.name, Cond.static Lib.Math.min.name, Cond.initialized "java/lang/Math", Cond.code Lib.Math.min.name Lib.Math.min.code 2 (some .int), Cond.methodLink RX1 58 yX0_enter, Cond.methodLink RX2 85 yX1_checkShoe, Cond.instanceMethod yX1_checkShoe, Cond.selects RX1 yX1_checkShoe yX1_checkShoe, Cond.code yX1_checkShoe cX1_checkShoe 2 none, Cond.methodLink RX1 99 Lib.Math.max.name, Cond.static Lib.Math.max.name, Cond.code Lib.Math.max.name Lib.Math.max.code 2 (some .int)]
def wsX2_influx_r5 : List Cond := [Cond.methodLink RX1 96 yX1_pressureAtShoe, Cond.instanceMethod yX1_pressureAtShoe, Cond.selects RX1 yX1_pressureAtShoe yX1_pressureAtShoe, Cond.code yX1_pressureAtShoe cX1_pressureAtShoe 1 (some .int), Cond.methodLink RX1 134 yX1_pressureAtCasing, Cond.instanceMethod yX1_pressureAtCasing, Cond.selects RX1 yX1_pressureAtCasing yX1_pressureAtCasing, Cond.code yX1_pressureAtCasing cX1_pressureAtCasing 1 (some .int), Cond.methodLink RX1 128 yX1_pressureOfWhole, Cond.instanceMethod yX1_pressureOfWhole, Cond.selects RX1 yX1_pressureOfWhole yX1_pressureOfWhole, Cond.code yX1_pressureOfWhole cX1_pressureOfWhole 2 (some .int), Cond.fieldLink RX1 108 "WellControl$Column" "load" "J", Cond.methodLink RX1 104 yX1_column, Cond.instanceMethod yX1_column, Cond.selects RX1 yX1_column yX1_column, Cond.code yX1_column cX1_column 2 (some (.object "WellControl$Column")), Cond.methodLink RX1 112 yX1_capacity, Cond.instanceMethod yX1_capacity, Cond.selects RX1 yX1_capacity yX1_capacity, Cond.code yX1_capacity cX1_capacity 2 (some .int), Cond.methodLink RX1 116 yX1_pressureOf, Cond.static yX1_pressureOf, Cond.code yX1_pressureOf cX1_pressureOf 3 (some .int)]
def wsX2_influx_r6 : List Cond := [Cond.constantLong RX1 124 (981), Cond.constantLong RX1 126 (100000), Cond.methodLink RX1 137 yX1_pressureOfPart, Cond.instanceMethod yX1_pressureOfPart, Cond.selects RX1 yX1_pressureOfPart yX1_pressureOfPart, Cond.code yX1_pressureOfPart cX1_pressureOfPart 4 (some .int), Cond.methodLink RX1 120 yX0_loadAbove, Cond.instanceMethod yX0_loadAbove, Cond.selects RX0 yX0_loadAbove yX0_loadAbove, Cond.code yX0_loadAbove cX0_loadAbove 8 (some .long), Cond.methodLink RX0 50 yX0_placeOfIndex, Cond.instanceMethod yX0_placeOfIndex, Cond.selects RX0 yX0_placeOfIndex yX0_placeOfIndex, Cond.code yX0_placeOfIndex cX0_placeOfIndex 3 (some .int), Cond.fieldLink RX0 18 "WellControl$Column" "filledFromTop" "Z", Cond.methodLink RX2 88 yX1_pressureAtCasing]
def wsX2_influx : List Cond := .code yX2_influx cX2_influx 3 (some .int) :: ((wsX2_influx_r1 ++ (wsX2_influx_r2 ++ (wsX2_influx_r3 ++ (wsX2_influx_r4 ++ (wsX2_influx_r5 ++ wsX2_influx_r6))))) ++ wsX20 ++ wsX10 ++ wsX00)
def wsX2_hydrostatic_r1 : List Cond := [Cond.fieldLink RX2 10 "WellControl" "well" "LWellControl$Well;", Cond.methodLink RX2 31 yX2_within, Cond.static yX2_within, Cond.initialized RX2, Cond.code yX2_within cX2_within 3 (some .boolean), Cond.methodLink RX2 35 yX2_refuse, Cond.instanceMethod yX2_refuse, Cond.selects RX2 yX2_refuse yX2_refuse, Cond.code yX2_refuse cX2_refuse 2 (some .int), Cond.fieldLink RX2 27 "WellControl" "errors" "[I", Cond.methodLink RX2 94 yX1_pressureOfWhole, Cond.instanceMethod yX1_pressureOfWhole, Cond.selects RX1 yX1_pressureOfWhole yX1_pressureOfWhole, Cond.initialized RX1, Cond.code yX1_pressureOfWhole cX1_pressureOfWhole 2 (some .int), Cond.fieldLink RX1 108 "WellControl$Column" "load" "J", Cond.methodLink RX1 104 yX1_column, Cond.instanceMethod yX1_column, Cond.selects RX1 yX1_column yX1_column, Cond.code yX1_column cX1_column 2 (some (.object "WellControl$Column")), Cond.fieldLink RX1 41 "WellControl$Well" "pipe" "LWellControl$Column;", Cond.fieldLink RX1 45 "WellControl$Well" "annulus" "LWellControl$Column;", Cond.methodLink RX1 112 yX1_capacity, Cond.instanceMethod yX1_capacity]
def wsX2_hydrostatic_r2 : List Cond := [Cond.selects RX1 yX1_capacity yX1_capacity, Cond.code yX1_capacity cX1_capacity 2 (some .int), Cond.fieldLink RX1 15 "WellControl$Well" "pipeCapacity" "I", Cond.fieldLink RX1 18 "WellControl$Well" "annulusCapacity" "I", Cond.methodLink RX1 116 yX1_pressureOf, Cond.static yX1_pressureOf, Cond.code yX1_pressureOf cX1_pressureOf 3 (some .int), Cond.constantLong RX1 124 (981), Cond.constantLong RX1 126 (100000), Cond.methodLink RX1 99 Lib.Math.max.name, Cond.static Lib.Math.max.name, Cond.initialized "java/lang/Math", Cond.code Lib.Math.max.name Lib.Math.max.code 2 (some .int)]
def wsX2_hydrostatic : List Cond := .code yX2_hydrostatic cX2_hydrostatic 2 (some .int) :: ((wsX2_hydrostatic_r1 ++ wsX2_hydrostatic_r2) ++ wsX20 ++ wsX00 ++ wsX10)
def wsX2_hydrostaticAbove_r1 : List Cond := [Cond.fieldLink RX2 10 "WellControl" "well" "LWellControl$Well;", Cond.fieldLink RX2 42 "WellControl$Well" "depth" "I", Cond.methodLink RX2 31 yX2_within, Cond.static yX2_within, Cond.initialized RX2, Cond.code yX2_within cX2_within 3 (some .boolean), Cond.methodLink RX2 35 yX2_refuse, Cond.instanceMethod yX2_refuse, Cond.selects RX2 yX2_refuse yX2_refuse, Cond.code yX2_refuse cX2_refuse 2 (some .int), Cond.fieldLink RX2 27 "WellControl" "errors" "[I", Cond.methodLink RX2 97 yX1_pressureOfPart, Cond.instanceMethod yX1_pressureOfPart, Cond.selects RX1 yX1_pressureOfPart yX1_pressureOfPart, Cond.initialized RX1, Cond.code yX1_pressureOfPart cX1_pressureOfPart 4 (some .int), Cond.methodLink RX1 112 yX1_capacity, Cond.instanceMethod yX1_capacity, Cond.selects RX1 yX1_capacity yX1_capacity, Cond.code yX1_capacity cX1_capacity 2 (some .int), Cond.fieldLink RX1 15 "WellControl$Well" "pipeCapacity" "I", Cond.fieldLink RX1 18 "WellControl$Well" "annulusCapacity" "I", Cond.methodLink RX1 104 yX1_column, Cond.instanceMethod yX1_column]
def wsX2_hydrostaticAbove_r2 : List Cond := [Cond.selects RX1 yX1_column yX1_column, Cond.code yX1_column cX1_column 2 (some (.object "WellControl$Column")), Cond.fieldLink RX1 41 "WellControl$Well" "pipe" "LWellControl$Column;", Cond.fieldLink RX1 45 "WellControl$Well" "annulus" "LWellControl$Column;", Cond.methodLink RX1 120 yX0_loadAbove, Cond.instanceMethod yX0_loadAbove, Cond.selects RX0 yX0_loadAbove yX0_loadAbove, Cond.initialized RX0, Cond.code yX0_loadAbove cX0_loadAbove 8 (some .long), Cond.fieldLink RX0 26 "WellControl$Column" "count" "I", Cond.fieldLink RX0 9 "WellControl$Column" "volumes" "[I", Cond.methodLink RX0 60 Lib.Math.min.name, Cond.static Lib.Math.min.name, Cond.initialized "java/lang/Math", Cond.code Lib.Math.min.name Lib.Math.min.code 2 (some .int), Cond.fieldLink RX0 15 "WellControl$Column" "densities" "[I", Cond.methodLink RX0 50 yX0_placeOfIndex, Cond.instanceMethod yX0_placeOfIndex, Cond.selects RX0 yX0_placeOfIndex yX0_placeOfIndex, Cond.code yX0_placeOfIndex cX0_placeOfIndex 3 (some .int), Cond.fieldLink RX0 18 "WellControl$Column" "filledFromTop" "Z", Cond.fieldLink RX0 22 "WellControl$Column" "oldest" "I", Cond.methodLink RX0 44 yJ9_floorMod_7cf53, Cond.static yJ9_floorMod_7cf53]
def wsX2_hydrostaticAbove_r3 : List Cond := [Cond.initialized RJ9, Cond.code yJ9_floorMod_7cf53 cJ9_floorMod_7cf53 3 (some .int), Cond.methodLink RX1 116 yX1_pressureOf, Cond.static yX1_pressureOf, Cond.code yX1_pressureOf cX1_pressureOf 3 (some .int), Cond.constantLong RX1 124 (981), Cond.constantLong RX1 126 (100000), Cond.methodLink RX1 99 Lib.Math.max.name, Cond.static Lib.Math.max.name, Cond.code Lib.Math.max.name Lib.Math.max.code 2 (some .int)]
def wsX2_hydrostaticAbove : List Cond := .code yX2_hydrostaticAbove cX2_hydrostaticAbove 3 (some .int) :: ((wsX2_hydrostaticAbove_r1 ++ (wsX2_hydrostaticAbove_r2 ++ wsX2_hydrostaticAbove_r3)) ++ wsX20 ++ wsX10 ++ wsX00)
def wsX2_drillPipePressure_r1 : List Cond := [Cond.fieldLink RX2 10 "WellControl" "well" "LWellControl$Well;", Cond.methodLink RX2 101 yX1_pressureAtPipe, Cond.instanceMethod yX1_pressureAtPipe, Cond.selects RX1 yX1_pressureAtPipe yX1_pressureAtPipe, Cond.initialized RX1, Cond.code yX1_pressureAtPipe cX1_pressureAtPipe 1 (some .int), Cond.fieldLink RX1 27 "WellControl$Well" "formation" "I", Cond.methodLink RX1 99 Lib.Math.max.name, Cond.static Lib.Math.max.name, Cond.initialized "java/lang/Math", Cond.code Lib.Math.max.name Lib.Math.max.code 2 (some .int), Cond.methodLink RX1 128 yX1_pressureOfWhole, Cond.instanceMethod yX1_pressureOfWhole, Cond.selects RX1 yX1_pressureOfWhole yX1_pressureOfWhole, Cond.code yX1_pressureOfWhole cX1_pressureOfWhole 2 (some .int), Cond.fieldLink RX1 108 "WellControl$Column" "load" "J", Cond.methodLink RX1 104 yX1_column, Cond.instanceMethod yX1_column, Cond.selects RX1 yX1_column yX1_column, Cond.code yX1_column cX1_column 2 (some (.object "WellControl$Column")), Cond.fieldLink RX1 41 "WellControl$Well" "pipe" "LWellControl$Column;", Cond.fieldLink RX1 45 "WellControl$Well" "annulus" "LWellControl$Column;", Cond.methodLink RX1 112 yX1_capacity, Cond.instanceMethod yX1_capacity]
def wsX2_drillPipePressure_r2 : List Cond := [Cond.selects RX1 yX1_capacity yX1_capacity, Cond.code yX1_capacity cX1_capacity 2 (some .int), Cond.fieldLink RX1 15 "WellControl$Well" "pipeCapacity" "I", Cond.fieldLink RX1 18 "WellControl$Well" "annulusCapacity" "I", Cond.methodLink RX1 116 yX1_pressureOf, Cond.static yX1_pressureOf, Cond.code yX1_pressureOf cX1_pressureOf 3 (some .int), Cond.constantLong RX1 124 (981), Cond.constantLong RX1 126 (100000)]
def wsX2_drillPipePressure : List Cond := .code yX2_drillPipePressure cX2_drillPipePressure 1 (some .int) :: ((wsX2_drillPipePressure_r1 ++ wsX2_drillPipePressure_r2) ++ wsX20 ++ wsX10 ++ wsX00)
def wsX2_casingPressure_r1 : List Cond := [Cond.fieldLink RX2 10 "WellControl" "well" "LWellControl$Well;", Cond.methodLink RX2 88 yX1_pressureAtCasing, Cond.instanceMethod yX1_pressureAtCasing, Cond.selects RX1 yX1_pressureAtCasing yX1_pressureAtCasing, Cond.initialized RX1, Cond.code yX1_pressureAtCasing cX1_pressureAtCasing 1 (some .int), Cond.fieldLink RX1 27 "WellControl$Well" "formation" "I", Cond.methodLink RX1 99 Lib.Math.max.name, Cond.static Lib.Math.max.name, Cond.initialized "java/lang/Math", Cond.code Lib.Math.max.name Lib.Math.max.code 2 (some .int), Cond.methodLink RX1 128 yX1_pressureOfWhole, Cond.instanceMethod yX1_pressureOfWhole, Cond.selects RX1 yX1_pressureOfWhole yX1_pressureOfWhole, Cond.code yX1_pressureOfWhole cX1_pressureOfWhole 2 (some .int), Cond.fieldLink RX1 108 "WellControl$Column" "load" "J", Cond.methodLink RX1 104 yX1_column, Cond.instanceMethod yX1_column, Cond.selects RX1 yX1_column yX1_column, Cond.code yX1_column cX1_column 2 (some (.object "WellControl$Column")), Cond.fieldLink RX1 41 "WellControl$Well" "pipe" "LWellControl$Column;", Cond.fieldLink RX1 45 "WellControl$Well" "annulus" "LWellControl$Column;", Cond.methodLink RX1 112 yX1_capacity, Cond.instanceMethod yX1_capacity]
def wsX2_casingPressure_r2 : List Cond := [Cond.selects RX1 yX1_capacity yX1_capacity, Cond.code yX1_capacity cX1_capacity 2 (some .int), Cond.fieldLink RX1 15 "WellControl$Well" "pipeCapacity" "I", Cond.fieldLink RX1 18 "WellControl$Well" "annulusCapacity" "I", Cond.methodLink RX1 116 yX1_pressureOf, Cond.static yX1_pressureOf, Cond.code yX1_pressureOf cX1_pressureOf 3 (some .int), Cond.constantLong RX1 124 (981), Cond.constantLong RX1 126 (100000)]
def wsX2_casingPressure : List Cond := .code yX2_casingPressure cX2_casingPressure 1 (some .int) :: ((wsX2_casingPressure_r1 ++ wsX2_casingPressure_r2) ++ wsX20 ++ wsX10 ++ wsX00)
def wsX2_standpipePressure_r1 : List Cond := [Cond.fieldLink RX2 10 "WellControl" "well" "LWellControl$Well;", Cond.methodLink RX2 104 yX1_pressureAtStandpipe, Cond.instanceMethod yX1_pressureAtStandpipe, Cond.selects RX1 yX1_pressureAtStandpipe yX1_pressureAtStandpipe, Cond.initialized RX1, Cond.code yX1_pressureAtStandpipe cX1_pressureAtStandpipe 1 (some .int), Cond.fieldLink RX1 30 "WellControl$Well" "slowPump" "I", Cond.methodLink RX1 131 yX1_pressureAtPipe, Cond.instanceMethod yX1_pressureAtPipe, Cond.selects RX1 yX1_pressureAtPipe yX1_pressureAtPipe, Cond.code yX1_pressureAtPipe cX1_pressureAtPipe 1 (some .int), Cond.fieldLink RX1 27 "WellControl$Well" "formation" "I", Cond.methodLink RX1 99 Lib.Math.max.name, Cond.static Lib.Math.max.name, Cond.initialized "java/lang/Math", Cond.code Lib.Math.max.name Lib.Math.max.code 2 (some .int), Cond.methodLink RX1 128 yX1_pressureOfWhole, Cond.instanceMethod yX1_pressureOfWhole, Cond.selects RX1 yX1_pressureOfWhole yX1_pressureOfWhole, Cond.code yX1_pressureOfWhole cX1_pressureOfWhole 2 (some .int), Cond.fieldLink RX1 108 "WellControl$Column" "load" "J", Cond.methodLink RX1 104 yX1_column, Cond.instanceMethod yX1_column, Cond.selects RX1 yX1_column yX1_column]
def wsX2_standpipePressure_r2 : List Cond := [Cond.code yX1_column cX1_column 2 (some (.object "WellControl$Column")), Cond.fieldLink RX1 41 "WellControl$Well" "pipe" "LWellControl$Column;", Cond.fieldLink RX1 45 "WellControl$Well" "annulus" "LWellControl$Column;", Cond.methodLink RX1 112 yX1_capacity, Cond.instanceMethod yX1_capacity, Cond.selects RX1 yX1_capacity yX1_capacity, Cond.code yX1_capacity cX1_capacity 2 (some .int), Cond.fieldLink RX1 15 "WellControl$Well" "pipeCapacity" "I", Cond.fieldLink RX1 18 "WellControl$Well" "annulusCapacity" "I", Cond.methodLink RX1 116 yX1_pressureOf, Cond.static yX1_pressureOf, Cond.code yX1_pressureOf cX1_pressureOf 3 (some .int), Cond.constantLong RX1 124 (981), Cond.constantLong RX1 126 (100000)]
def wsX2_standpipePressure : List Cond := .code yX2_standpipePressure cX2_standpipePressure 1 (some .int) :: ((wsX2_standpipePressure_r1 ++ wsX2_standpipePressure_r2) ++ wsX20 ++ wsX10 ++ wsX00)
def wsX2_shoePressure_r1 : List Cond := [Cond.fieldLink RX2 10 "WellControl" "well" "LWellControl$Well;", Cond.methodLink RX2 107 yX1_pressureAtShoe, Cond.instanceMethod yX1_pressureAtShoe, Cond.selects RX1 yX1_pressureAtShoe yX1_pressureAtShoe, Cond.initialized RX1, Cond.code yX1_pressureAtShoe cX1_pressureAtShoe 1 (some .int), Cond.fieldLink RX1 21 "WellControl$Well" "shoe" "I", Cond.methodLink RX1 134 yX1_pressureAtCasing, Cond.instanceMethod yX1_pressureAtCasing, Cond.selects RX1 yX1_pressureAtCasing yX1_pressureAtCasing, Cond.code yX1_pressureAtCasing cX1_pressureAtCasing 1 (some .int), Cond.fieldLink RX1 27 "WellControl$Well" "formation" "I", Cond.methodLink RX1 99 Lib.Math.max.name, Cond.static Lib.Math.max.name, Cond.initialized "java/lang/Math", Cond.code Lib.Math.max.name Lib.Math.max.code 2 (some .int), Cond.methodLink RX1 128 yX1_pressureOfWhole, Cond.instanceMethod yX1_pressureOfWhole, Cond.selects RX1 yX1_pressureOfWhole yX1_pressureOfWhole, Cond.code yX1_pressureOfWhole cX1_pressureOfWhole 2 (some .int), Cond.fieldLink RX1 108 "WellControl$Column" "load" "J", Cond.methodLink RX1 104 yX1_column, Cond.instanceMethod yX1_column, Cond.selects RX1 yX1_column yX1_column]
def wsX2_shoePressure_r2 : List Cond := [Cond.code yX1_column cX1_column 2 (some (.object "WellControl$Column")), Cond.fieldLink RX1 41 "WellControl$Well" "pipe" "LWellControl$Column;", Cond.fieldLink RX1 45 "WellControl$Well" "annulus" "LWellControl$Column;", Cond.methodLink RX1 112 yX1_capacity, Cond.instanceMethod yX1_capacity, Cond.selects RX1 yX1_capacity yX1_capacity, Cond.code yX1_capacity cX1_capacity 2 (some .int), Cond.fieldLink RX1 15 "WellControl$Well" "pipeCapacity" "I", Cond.fieldLink RX1 18 "WellControl$Well" "annulusCapacity" "I", Cond.methodLink RX1 116 yX1_pressureOf, Cond.static yX1_pressureOf, Cond.code yX1_pressureOf cX1_pressureOf 3 (some .int), Cond.constantLong RX1 124 (981), Cond.constantLong RX1 126 (100000), Cond.methodLink RX1 137 yX1_pressureOfPart, Cond.instanceMethod yX1_pressureOfPart, Cond.selects RX1 yX1_pressureOfPart yX1_pressureOfPart, Cond.code yX1_pressureOfPart cX1_pressureOfPart 4 (some .int), Cond.methodLink RX1 120 yX0_loadAbove, Cond.instanceMethod yX0_loadAbove, Cond.selects RX0 yX0_loadAbove yX0_loadAbove, Cond.initialized RX0, Cond.code yX0_loadAbove cX0_loadAbove 8 (some .long), Cond.fieldLink RX0 26 "WellControl$Column" "count" "I"]
def wsX2_shoePressure_r3 : List Cond := [Cond.fieldLink RX0 9 "WellControl$Column" "volumes" "[I", Cond.methodLink RX0 60 Lib.Math.min.name, Cond.static Lib.Math.min.name, Cond.code Lib.Math.min.name Lib.Math.min.code 2 (some .int), Cond.fieldLink RX0 15 "WellControl$Column" "densities" "[I", Cond.methodLink RX0 50 yX0_placeOfIndex, Cond.instanceMethod yX0_placeOfIndex, Cond.selects RX0 yX0_placeOfIndex yX0_placeOfIndex, Cond.code yX0_placeOfIndex cX0_placeOfIndex 3 (some .int), Cond.fieldLink RX0 18 "WellControl$Column" "filledFromTop" "Z", Cond.fieldLink RX0 22 "WellControl$Column" "oldest" "I", Cond.methodLink RX0 44 yJ9_floorMod_7cf53, Cond.static yJ9_floorMod_7cf53, Cond.initialized RJ9, Cond.code yJ9_floorMod_7cf53 cJ9_floorMod_7cf53 3 (some .int)]
def wsX2_shoePressure : List Cond := .code yX2_shoePressure cX2_shoePressure 1 (some .int) :: ((wsX2_shoePressure_r1 ++ (wsX2_shoePressure_r2 ++ wsX2_shoePressure_r3)) ++ wsX20 ++ wsX10 ++ wsX00)
def wsX2_allowedCasingPressure_r1 : List Cond := [Cond.fieldLink RX2 10 "WellControl" "well" "LWellControl$Well;", Cond.fieldLink RX2 74 "WellControl$Well" "fracture" "I", Cond.fieldLink RX2 51 "WellControl$Well" "shoe" "I", Cond.methodLink RX2 97 yX1_pressureOfPart, Cond.instanceMethod yX1_pressureOfPart, Cond.selects RX1 yX1_pressureOfPart yX1_pressureOfPart, Cond.initialized RX1, Cond.code yX1_pressureOfPart cX1_pressureOfPart 4 (some .int), Cond.methodLink RX1 112 yX1_capacity, Cond.instanceMethod yX1_capacity, Cond.selects RX1 yX1_capacity yX1_capacity, Cond.code yX1_capacity cX1_capacity 2 (some .int), Cond.fieldLink RX1 15 "WellControl$Well" "pipeCapacity" "I", Cond.fieldLink RX1 18 "WellControl$Well" "annulusCapacity" "I", Cond.methodLink RX1 104 yX1_column, Cond.instanceMethod yX1_column, Cond.selects RX1 yX1_column yX1_column, Cond.code yX1_column cX1_column 2 (some (.object "WellControl$Column")), Cond.fieldLink RX1 41 "WellControl$Well" "pipe" "LWellControl$Column;", Cond.fieldLink RX1 45 "WellControl$Well" "annulus" "LWellControl$Column;", Cond.methodLink RX1 120 yX0_loadAbove, Cond.instanceMethod yX0_loadAbove, Cond.selects RX0 yX0_loadAbove yX0_loadAbove, Cond.initialized RX0]
def wsX2_allowedCasingPressure_r2 : List Cond := [Cond.code yX0_loadAbove cX0_loadAbove 8 (some .long), Cond.fieldLink RX0 26 "WellControl$Column" "count" "I", Cond.fieldLink RX0 9 "WellControl$Column" "volumes" "[I", Cond.methodLink RX0 60 Lib.Math.min.name, Cond.static Lib.Math.min.name, Cond.initialized "java/lang/Math", Cond.code Lib.Math.min.name Lib.Math.min.code 2 (some .int), Cond.fieldLink RX0 15 "WellControl$Column" "densities" "[I", Cond.methodLink RX0 50 yX0_placeOfIndex, Cond.instanceMethod yX0_placeOfIndex, Cond.selects RX0 yX0_placeOfIndex yX0_placeOfIndex, Cond.code yX0_placeOfIndex cX0_placeOfIndex 3 (some .int), Cond.fieldLink RX0 18 "WellControl$Column" "filledFromTop" "Z", Cond.fieldLink RX0 22 "WellControl$Column" "oldest" "I", Cond.methodLink RX0 44 yJ9_floorMod_7cf53, Cond.static yJ9_floorMod_7cf53, Cond.initialized RJ9, Cond.code yJ9_floorMod_7cf53 cJ9_floorMod_7cf53 3 (some .int), Cond.methodLink RX1 116 yX1_pressureOf, Cond.static yX1_pressureOf, Cond.code yX1_pressureOf cX1_pressureOf 3 (some .int), Cond.constantLong RX1 124 (981), Cond.constantLong RX1 126 (100000), Cond.methodLink RX1 99 Lib.Math.max.name]
def wsX2_allowedCasingPressure_r3 : List Cond := [Cond.static Lib.Math.max.name, Cond.code Lib.Math.max.name Lib.Math.max.code 2 (some .int)]
def wsX2_allowedCasingPressure : List Cond := .code yX2_allowedCasingPressure cX2_allowedCasingPressure 1 (some .int) :: ((wsX2_allowedCasingPressure_r1 ++ (wsX2_allowedCasingPressure_r2 ++ wsX2_allowedCasingPressure_r3)) ++ wsX20 ++ wsX10 ++ wsX00)
def wsX2_killDensity_r1 : List Cond := [Cond.fieldLink RX2 10 "WellControl" "well" "LWellControl$Well;", Cond.methodLink RX2 110 yX1_densityToKill, Cond.instanceMethod yX1_densityToKill, Cond.selects RX1 yX1_densityToKill yX1_densityToKill, Cond.initialized RX1, Cond.code yX1_densityToKill cX1_densityToKill 5 (some .int), Cond.constantLong RX1 124 (981), Cond.fieldLink RX1 9 "WellControl$Well" "depth" "I", Cond.methodLink RX1 99 Lib.Math.max.name, Cond.static Lib.Math.max.name, Cond.initialized "java/lang/Math", Cond.code Lib.Math.max.name Lib.Math.max.code 2 (some .int), Cond.constantLong RX1 126 (100000), Cond.fieldLink RX1 27 "WellControl$Well" "formation" "I", Cond.constantLong RX1 140 (2500), Cond.methodLink RX1 142 Lib.MathLoose.max_long.x, Cond.static Lib.MathLoose.max_long.x, Cond.code Lib.MathLoose.max_long.x Lib.MathLoose.max_long.code 4 (some .long), Cond.methodLink RX2 35 yX2_refuse, Cond.instanceMethod yX2_refuse, Cond.selects RX2 yX2_refuse yX2_refuse, Cond.initialized RX2, Cond.code yX2_refuse cX2_refuse 2 (some .int), Cond.fieldLink RX2 27 "WellControl" "errors" "[I"]
def wsX2_killDensity_r2 : List Cond := [Cond.methodLink RX2 31 yX2_within, Cond.static yX2_within, Cond.code yX2_within cX2_within 3 (some .boolean)]
def wsX2_killDensity : List Cond := .code yX2_killDensity cX2_killDensity 2 (some .int) :: ((wsX2_killDensity_r1 ++ wsX2_killDensity_r2) ++ wsX20 ++ wsX10)
def wsX2_killShoePressure_r1 : List Cond := [Cond.fieldLink RX2 10 "WellControl" "well" "LWellControl$Well;", Cond.fieldLink RX2 16 "WellControl" "trial" "LWellControl$Well;", Cond.fieldLink RX2 117 "WellControl$Well" "greatestAtShoe" "I", Cond.fieldLink RX2 64 "WellControl$Well" "mud" "I", Cond.methodLink RX2 31 yX2_within, Cond.static yX2_within, Cond.initialized RX2, Cond.code yX2_within cX2_within 3 (some .boolean), Cond.methodLink RX2 35 yX2_refuse, Cond.instanceMethod yX2_refuse, Cond.selects RX2 yX2_refuse yX2_refuse, Cond.code yX2_refuse cX2_refuse 2 (some .int), Cond.fieldLink RX2 27 "WellControl" "errors" "[I", Cond.methodLink RX2 77 yX1_canCirculate, Cond.instanceMethod yX1_canCirculate, Cond.selects RX1 yX1_canCirculate yX1_canCirculate, Cond.initialized RX1, Cond.code yX1_canCirculate cX1_canCirculate 2 (some .boolean), Cond.methodLink RX1 54 yX1_pipeVolume, Cond.instanceMethod yX1_pipeVolume, Cond.selects RX1 yX1_pipeVolume yX1_pipeVolume, Cond.code yX1_pipeVolume cX1_pipeVolume 1 (some .int), Cond.fieldLink RX1 9 "WellControl$Well" "depth" "I", Cond.fieldLink RX1 15 "WellControl$Well" "pipeCapacity" "I"]
def wsX2_killShoePressure_r2 : List Cond := [Cond.methodLink RX1 62 yX1_annulusVolume, Cond.instanceMethod yX1_annulusVolume, Cond.selects RX1 yX1_annulusVolume yX1_annulusVolume, Cond.code yX1_annulusVolume cX1_annulusVolume 1 (some .int), Cond.fieldLink RX1 18 "WellControl$Well" "annulusCapacity" "I", Cond.methodLink RX2 110 yX1_densityToKill, Cond.instanceMethod yX1_densityToKill, Cond.selects RX1 yX1_densityToKill yX1_densityToKill, Cond.code yX1_densityToKill cX1_densityToKill 5 (some .int), Cond.constantLong RX1 124 (981), Cond.methodLink RX1 99 Lib.Math.max.name, Cond.static Lib.Math.max.name, Cond.initialized "java/lang/Math", Cond.code Lib.Math.max.name Lib.Math.max.code 2 (some .int), Cond.constantLong RX1 126 (100000), Cond.fieldLink RX1 27 "WellControl$Well" "formation" "I", Cond.constantLong RX1 140 (2500), Cond.methodLink RX1 142 Lib.MathLoose.max_long.x, Cond.static Lib.MathLoose.max_long.x, Cond.code Lib.MathLoose.max_long.x Lib.MathLoose.max_long.code 4 (some .long), Cond.methodLink RX2 113 yX1_copyFrom, Cond.instanceMethod yX1_copyFrom, Cond.selects RX1 yX1_copyFrom yX1_copyFrom, Cond.code yX1_copyFrom cX1_copyFrom 2 none]
def wsX2_killShoePressure_r3 : List Cond := [Cond.fieldLink RX1 21 "WellControl$Well" "shoe" "I", Cond.fieldLink RX1 24 "WellControl$Well" "mud" "I", Cond.fieldLink RX1 30 "WellControl$Well" "slowPump" "I", Cond.fieldLink RX1 33 "WellControl$Well" "fracture" "I", Cond.fieldLink RX1 65 "WellControl$Well" "gained" "I", Cond.fieldLink RX1 68 "WellControl$Well" "timesBroken" "I", Cond.fieldLink RX1 71 "WellControl$Well" "greatestAtShoe" "I", Cond.fieldLink RX1 41 "WellControl$Well" "pipe" "LWellControl$Column;", Cond.fieldLink RX1 45 "WellControl$Well" "annulus" "LWellControl$Column;", Cond.methodLink RX1 74 yX0_copyFrom, Cond.instanceMethod yX0_copyFrom, Cond.selects RX0 yX0_copyFrom yX0_copyFrom, Cond.initialized RX0, Cond.code yX0_copyFrom cX0_copyFrom 4 none, Cond.fieldLink RX0 26 "WellControl$Column" "count" "I", Cond.fieldLink RX0 9 "WellControl$Column" "volumes" "[I", Cond.fieldLink RX0 15 "WellControl$Column" "densities" "[I", Cond.methodLink RX0 33 yX0_clear, Cond.instanceMethod yX0_clear, Cond.selects RX0 yX0_clear yX0_clear, Cond.code yX0_clear cX0_clear 1 none, Cond.fieldLink RX0 22 "WellControl$Column" "oldest" "I", Cond.fieldLink RX0 29 "WellControl$Column" "load" "J", Cond.methodLink RX0 36 yX0_placeOfAge]
def wsX2_killShoePressure_r4 : List Cond := [Cond.instanceMethod yX0_placeOfAge, Cond.selects RX0 yX0_placeOfAge yX0_placeOfAge, Cond.code yX0_placeOfAge cX0_placeOfAge 2 (some .int), Cond.methodLink RX0 44 yJ9_floorMod_7cf53, Cond.static yJ9_floorMod_7cf53, Cond.initialized RJ9, Cond.code yJ9_floorMod_7cf53 cJ9_floorMod_7cf53 3 (some .int), Cond.methodLink RX0 40 yX0_enter, Cond.instanceMethod yX0_enter, Cond.selects RX0 yX0_enter yX0_enter, Cond.code yX0_enter cX0_enter 4 none, Cond.methodLink RX0 53 yX0_joinsNewest, Cond.instanceMethod yX0_joinsNewest, Cond.selects RX0 yX0_joinsNewest yX0_joinsNewest, Cond.code yX0_joinsNewest cX0_joinsNewest 2 (some .boolean), Cond.methodLink RX2 61 yX1_annulusVolume, Cond.methodLink RX2 120 yX1_circulateInSteps, Cond.instanceMethod yX1_circulateInSteps, Cond.selects RX1 yX1_circulateInSteps yX1_circulateInSteps, Cond.code yX1_circulateInSteps cX1_circulateInSteps 6 none, Cond.static yX2_portionsFor, Cond.code yX2_portionsFor cX2_portionsFor 3 (some .int), Cond.methodLink RX2 124 Lib.Math.max.name, Cond.methodLink RX1 90 yX1_circulate]
def wsX2_killShoePressure_r5 : List Cond := [Cond.instanceMethod yX1_circulate, Cond.selects RX1 yX1_circulate yX1_circulate, Cond.code yX1_circulate cX1_circulate 3 none, Cond.methodLink RX1 78 yX0_release, Cond.instanceMethod yX0_release, Cond.selects RX0 yX0_release yX0_release, Cond.code yX0_release cX0_release 4 none, Cond.methodLink RX0 57 yX0_releaseOldest, Cond.instanceMethod yX0_releaseOldest, Cond.selects RX0 yX0_releaseOldest yX0_releaseOldest, Cond.code yX0_releaseOldest cX0_releaseOldest 4 (some .int), Cond.methodLink RX0 60 Lib.Math.min.name, Cond.static Lib.Math.min.name, Cond.code Lib.Math.min.name Lib.Math.min.code 2 (some .int), Cond.methodLink RX1 82 yX0_releaseInto, Cond.instanceMethod yX0_releaseInto, Cond.selects RX0 yX0_releaseInto yX0_releaseInto, Cond.code yX0_releaseInto cX0_releaseInto 7 none, Cond.methodLink RX1 58 yX0_enter, Cond.methodLink RX1 93 yX1_checkShoe, Cond.instanceMethod yX1_checkShoe, Cond.selects RX1 yX1_checkShoe yX1_checkShoe, Cond.code yX1_checkShoe cX1_checkShoe 2 none, Cond.methodLink RX1 96 yX1_pressureAtShoe]
def wsX2_killShoePressure_r6 : List Cond := [Cond.instanceMethod yX1_pressureAtShoe, Cond.selects RX1 yX1_pressureAtShoe yX1_pressureAtShoe, Cond.code yX1_pressureAtShoe cX1_pressureAtShoe 1 (some .int), Cond.methodLink RX1 134 yX1_pressureAtCasing, Cond.instanceMethod yX1_pressureAtCasing, Cond.selects RX1 yX1_pressureAtCasing yX1_pressureAtCasing, Cond.code yX1_pressureAtCasing cX1_pressureAtCasing 1 (some .int), Cond.methodLink RX1 128 yX1_pressureOfWhole, Cond.instanceMethod yX1_pressureOfWhole, Cond.selects RX1 yX1_pressureOfWhole yX1_pressureOfWhole, Cond.code yX1_pressureOfWhole cX1_pressureOfWhole 2 (some .int), Cond.fieldLink RX1 108 "WellControl$Column" "load" "J", Cond.methodLink RX1 104 yX1_column, Cond.instanceMethod yX1_column, Cond.selects RX1 yX1_column yX1_column, Cond.code yX1_column cX1_column 2 (some (.object "WellControl$Column")), Cond.methodLink RX1 112 yX1_capacity, Cond.instanceMethod yX1_capacity, Cond.selects RX1 yX1_capacity yX1_capacity, Cond.code yX1_capacity cX1_capacity 2 (some .int), Cond.methodLink RX1 116 yX1_pressureOf, Cond.static yX1_pressureOf, Cond.code yX1_pressureOf cX1_pressureOf 3 (some .int), Cond.methodLink RX1 137 yX1_pressureOfPart]
def wsX2_killShoePressure_r7 : List Cond := [Cond.instanceMethod yX1_pressureOfPart, Cond.selects RX1 yX1_pressureOfPart yX1_pressureOfPart, Cond.code yX1_pressureOfPart cX1_pressureOfPart 4 (some .int), Cond.methodLink RX1 120 yX0_loadAbove, Cond.instanceMethod yX0_loadAbove, Cond.selects RX0 yX0_loadAbove yX0_loadAbove, Cond.code yX0_loadAbove cX0_loadAbove 8 (some .long), Cond.methodLink RX0 50 yX0_placeOfIndex, Cond.instanceMethod yX0_placeOfIndex, Cond.selects RX0 yX0_placeOfIndex yX0_placeOfIndex, Cond.code yX0_placeOfIndex cX0_placeOfIndex 3 (some .int), Cond.fieldLink RX0 18 "WellControl$Column" "filledFromTop" "Z", Cond.methodLink RX2 57 yX1_pipeVolume]
def wsX2_killShoePressure : List Cond := .code yX2_killShoePressure cX2_killShoePressure 4 (some .int) :: ((wsX2_killShoePressure_r1 ++ (wsX2_killShoePressure_r2 ++ (wsX2_killShoePressure_r3 ++ (wsX2_killShoePressure_r4 ++ (wsX2_killShoePressure_r5 ++ (wsX2_killShoePressure_r6 ++ wsX2_killShoePressure_r7)))))) ++ wsX20 ++ wsX10 ++ wsX00)
def wsX2_schedule_r1 : List Cond := [Cond.fieldLink RX2 10 "WellControl" "well" "LWellControl$Well;", Cond.fieldLink RX2 71 "WellControl$Well" "slowPump" "I", Cond.fieldLink RX2 64 "WellControl$Well" "mud" "I", Cond.methodLink RX2 124 Lib.Math.max.name, Cond.static Lib.Math.max.name, Cond.initialized "java/lang/Math", Cond.code Lib.Math.max.name Lib.Math.max.code 2 (some .int), Cond.constantLong RX2 129 (100), Cond.methodLink RX2 31 yX2_within, Cond.static yX2_within, Cond.initialized RX2, Cond.code yX2_within cX2_within 3 (some .boolean), Cond.methodLink RX2 35 yX2_refuse, Cond.instanceMethod yX2_refuse, Cond.selects RX2 yX2_refuse yX2_refuse, Cond.code yX2_refuse cX2_refuse 2 (some .int), Cond.fieldLink RX2 27 "WellControl" "errors" "[I", Cond.methodLink RX2 110 yX1_densityToKill, Cond.instanceMethod yX1_densityToKill, Cond.selects RX1 yX1_densityToKill yX1_densityToKill, Cond.initialized RX1, Cond.code yX1_densityToKill cX1_densityToKill 5 (some .int), Cond.constantLong RX1 124 (981), Cond.fieldLink RX1 9 "WellControl$Well" "depth" "I"]
def wsX2_schedule_r2 : List Cond := [Cond.methodLink RX1 99 Lib.Math.max.name, Cond.constantLong RX1 126 (100000), Cond.fieldLink RX1 27 "WellControl$Well" "formation" "I", Cond.constantLong RX1 140 (2500), Cond.methodLink RX1 142 Lib.MathLoose.max_long.x, Cond.static Lib.MathLoose.max_long.x, Cond.code Lib.MathLoose.max_long.x Lib.MathLoose.max_long.code 4 (some .long), Cond.methodLink RX2 104 yX1_pressureAtStandpipe, Cond.instanceMethod yX1_pressureAtStandpipe, Cond.selects RX1 yX1_pressureAtStandpipe yX1_pressureAtStandpipe, Cond.code yX1_pressureAtStandpipe cX1_pressureAtStandpipe 1 (some .int), Cond.fieldLink RX1 30 "WellControl$Well" "slowPump" "I", Cond.methodLink RX1 131 yX1_pressureAtPipe, Cond.instanceMethod yX1_pressureAtPipe, Cond.selects RX1 yX1_pressureAtPipe yX1_pressureAtPipe, Cond.code yX1_pressureAtPipe cX1_pressureAtPipe 1 (some .int), Cond.methodLink RX1 128 yX1_pressureOfWhole, Cond.instanceMethod yX1_pressureOfWhole, Cond.selects RX1 yX1_pressureOfWhole yX1_pressureOfWhole, Cond.code yX1_pressureOfWhole cX1_pressureOfWhole 2 (some .int), Cond.fieldLink RX1 108 "WellControl$Column" "load" "J", Cond.methodLink RX1 104 yX1_column, Cond.instanceMethod yX1_column, Cond.selects RX1 yX1_column yX1_column]
def wsX2_schedule_r3 : List Cond := [Cond.code yX1_column cX1_column 2 (some (.object "WellControl$Column")), Cond.fieldLink RX1 41 "WellControl$Well" "pipe" "LWellControl$Column;", Cond.fieldLink RX1 45 "WellControl$Well" "annulus" "LWellControl$Column;", Cond.methodLink RX1 112 yX1_capacity, Cond.instanceMethod yX1_capacity, Cond.selects RX1 yX1_capacity yX1_capacity, Cond.code yX1_capacity cX1_capacity 2 (some .int), Cond.fieldLink RX1 15 "WellControl$Well" "pipeCapacity" "I", Cond.fieldLink RX1 18 "WellControl$Well" "annulusCapacity" "I", Cond.methodLink RX1 116 yX1_pressureOf, Cond.static yX1_pressureOf, Cond.code yX1_pressureOf cX1_pressureOf 3 (some .int)]
def wsX2_schedule : List Cond := .code yX2_schedule cX2_schedule 7 (some .int) :: ((wsX2_schedule_r1 ++ (wsX2_schedule_r2 ++ wsX2_schedule_r3)) ++ wsX20 ++ wsX10 ++ wsX00)
def wsX2_strokesToBit : List Cond := .code yX2_strokesToBit cX2_strokesToBit 2 (some .int) :: ([.fieldLink RX2 10 "WellControl" "well" "LWellControl$Well;", .methodLink RX2 31 yX2_within, .static yX2_within, .initialized RX2, .code yX2_within cX2_within 3 (some .boolean), .methodLink RX2 35 yX2_refuse, .instanceMethod yX2_refuse, .selects RX2 yX2_refuse yX2_refuse, .code yX2_refuse cX2_refuse 2 (some .int), .fieldLink RX2 27 "WellControl" "errors" "[I", .methodLink RX2 57 yX1_pipeVolume, .instanceMethod yX1_pipeVolume, .selects RX1 yX1_pipeVolume yX1_pipeVolume, .initialized RX1, .code yX1_pipeVolume cX1_pipeVolume 1 (some .int), .fieldLink RX1 9 "WellControl$Well" "depth" "I", .fieldLink RX1 15 "WellControl$Well" "pipeCapacity" "I", .methodLink RX2 131 yX2_portionsFor, .static yX2_portionsFor, .code yX2_portionsFor cX2_portionsFor 3 (some .int), .methodLink RX2 124 Lib.Math.max.name, .static Lib.Math.max.name, .initialized "java/lang/Math", .code Lib.Math.max.name Lib.Math.max.code 2 (some .int)] ++ wsX20 ++ wsX10)
def wsX2_layers : List Cond := .code yX2_layers cX2_layers 2 (some .int) :: ([.fieldLink RX2 10 "WellControl" "well" "LWellControl$Well;", .fieldLink RX2 138 "WellControl$Column" "count" "I", .methodLink RX2 31 yX2_within, .static yX2_within, .initialized RX2, .code yX2_within cX2_within 3 (some .boolean), .methodLink RX2 35 yX2_refuse, .instanceMethod yX2_refuse, .selects RX2 yX2_refuse yX2_refuse, .code yX2_refuse cX2_refuse 2 (some .int), .fieldLink RX2 27 "WellControl" "errors" "[I", .methodLink RX2 134 yX1_column, .instanceMethod yX1_column, .selects RX1 yX1_column yX1_column, .initialized RX1, .code yX1_column cX1_column 2 (some (.object "WellControl$Column")), .fieldLink RX1 41 "WellControl$Well" "pipe" "LWellControl$Column;", .fieldLink RX1 45 "WellControl$Well" "annulus" "LWellControl$Column;"] ++ wsX20 ++ wsX00 ++ wsX10)
def wsX2_layerError : List Cond := .code yX2_layerError cX2_layerError 3 (some .int) :: ([.fieldLink RX2 10 "WellControl" "well" "LWellControl$Well;", .fieldLink RX2 138 "WellControl$Column" "count" "I", .methodLink RX2 31 yX2_within, .static yX2_within, .initialized RX2, .code yX2_within cX2_within 3 (some .boolean), .methodLink RX2 134 yX1_column, .instanceMethod yX1_column, .selects RX1 yX1_column yX1_column, .initialized RX1, .code yX1_column cX1_column 2 (some (.object "WellControl$Column")), .fieldLink RX1 41 "WellControl$Well" "pipe" "LWellControl$Column;", .fieldLink RX1 45 "WellControl$Well" "annulus" "LWellControl$Column;"] ++ wsX20 ++ wsX00 ++ wsX10)
def wsX2_layerVolume_r1 : List Cond := [Cond.fieldLink RX2 10 "WellControl" "well" "LWellControl$Well;", Cond.methodLink RX2 143 yX2_layerError, Cond.instanceMethod yX2_layerError, Cond.selects RX2 yX2_layerError yX2_layerError, Cond.initialized RX2, Cond.code yX2_layerError cX2_layerError 3 (some .int), Cond.fieldLink RX2 138 "WellControl$Column" "count" "I", Cond.methodLink RX2 31 yX2_within, Cond.static yX2_within, Cond.code yX2_within cX2_within 3 (some .boolean), Cond.methodLink RX2 134 yX1_column, Cond.instanceMethod yX1_column, Cond.selects RX1 yX1_column yX1_column, Cond.initialized RX1, Cond.code yX1_column cX1_column 2 (some (.object "WellControl$Column")), Cond.fieldLink RX1 41 "WellControl$Well" "pipe" "LWellControl$Column;", Cond.fieldLink RX1 45 "WellControl$Well" "annulus" "LWellControl$Column;", Cond.methodLink RX2 35 yX2_refuse, Cond.instanceMethod yX2_refuse, Cond.selects RX2 yX2_refuse yX2_refuse, Cond.code yX2_refuse cX2_refuse 2 (some .int), Cond.fieldLink RX2 27 "WellControl" "errors" "[I", Cond.methodLink RX2 146 yX0_volumeOf, Cond.instanceMethod yX0_volumeOf]
def wsX2_layerVolume_r2 : List Cond := [Cond.selects RX0 yX0_volumeOf yX0_volumeOf, Cond.initialized RX0, Cond.code yX0_volumeOf cX0_volumeOf 2 (some .int), Cond.fieldLink RX0 9 "WellControl$Column" "volumes" "[I", Cond.methodLink RX0 50 yX0_placeOfIndex, Cond.instanceMethod yX0_placeOfIndex, Cond.selects RX0 yX0_placeOfIndex yX0_placeOfIndex, Cond.code yX0_placeOfIndex cX0_placeOfIndex 3 (some .int), Cond.fieldLink RX0 18 "WellControl$Column" "filledFromTop" "Z", Cond.fieldLink RX0 26 "WellControl$Column" "count" "I", Cond.fieldLink RX0 22 "WellControl$Column" "oldest" "I", Cond.methodLink RX0 44 yJ9_floorMod_7cf53, Cond.static yJ9_floorMod_7cf53, Cond.initialized RJ9, Cond.code yJ9_floorMod_7cf53 cJ9_floorMod_7cf53 3 (some .int)]
def wsX2_layerVolume : List Cond := .code yX2_layerVolume cX2_layerVolume 4 (some .int) :: ((wsX2_layerVolume_r1 ++ wsX2_layerVolume_r2) ++ wsX20 ++ wsX00 ++ wsX10)
def wsX2_layerDensity_r1 : List Cond := [Cond.fieldLink RX2 10 "WellControl" "well" "LWellControl$Well;", Cond.methodLink RX2 143 yX2_layerError, Cond.instanceMethod yX2_layerError, Cond.selects RX2 yX2_layerError yX2_layerError, Cond.initialized RX2, Cond.code yX2_layerError cX2_layerError 3 (some .int), Cond.fieldLink RX2 138 "WellControl$Column" "count" "I", Cond.methodLink RX2 31 yX2_within, Cond.static yX2_within, Cond.code yX2_within cX2_within 3 (some .boolean), Cond.methodLink RX2 134 yX1_column, Cond.instanceMethod yX1_column, Cond.selects RX1 yX1_column yX1_column, Cond.initialized RX1, Cond.code yX1_column cX1_column 2 (some (.object "WellControl$Column")), Cond.fieldLink RX1 41 "WellControl$Well" "pipe" "LWellControl$Column;", Cond.fieldLink RX1 45 "WellControl$Well" "annulus" "LWellControl$Column;", Cond.methodLink RX2 35 yX2_refuse, Cond.instanceMethod yX2_refuse, Cond.selects RX2 yX2_refuse yX2_refuse, Cond.code yX2_refuse cX2_refuse 2 (some .int), Cond.fieldLink RX2 27 "WellControl" "errors" "[I", Cond.methodLink RX2 149 yX0_densityOf, Cond.instanceMethod yX0_densityOf]
def wsX2_layerDensity_r2 : List Cond := [Cond.selects RX0 yX0_densityOf yX0_densityOf, Cond.initialized RX0, Cond.code yX0_densityOf cX0_densityOf 2 (some .int), Cond.fieldLink RX0 15 "WellControl$Column" "densities" "[I", Cond.methodLink RX0 50 yX0_placeOfIndex, Cond.instanceMethod yX0_placeOfIndex, Cond.selects RX0 yX0_placeOfIndex yX0_placeOfIndex, Cond.code yX0_placeOfIndex cX0_placeOfIndex 3 (some .int), Cond.fieldLink RX0 18 "WellControl$Column" "filledFromTop" "Z", Cond.fieldLink RX0 26 "WellControl$Column" "count" "I", Cond.fieldLink RX0 22 "WellControl$Column" "oldest" "I", Cond.methodLink RX0 44 yJ9_floorMod_7cf53, Cond.static yJ9_floorMod_7cf53, Cond.initialized RJ9, Cond.code yJ9_floorMod_7cf53 cJ9_floorMod_7cf53 3 (some .int)]
def wsX2_layerDensity : List Cond := .code yX2_layerDensity cX2_layerDensity 4 (some .int) :: ((wsX2_layerDensity_r1 ++ wsX2_layerDensity_r2) ++ wsX20 ++ wsX00 ++ wsX10)
def wsX2_gain : List Cond := .code yX2_gain cX2_gain 1 (some .int) :: ([.fieldLink RX2 10 "WellControl" "well" "LWellControl$Well;", .fieldLink RX2 152 "WellControl$Well" "gained" "I"] ++ wsX20 ++ wsX10)
def wsX2_breaks : List Cond := .code yX2_breaks cX2_breaks 1 (some .int) :: ([.fieldLink RX2 10 "WellControl" "well" "LWellControl$Well;", .fieldLink RX2 155 "WellControl$Well" "timesBroken" "I"] ++ wsX20 ++ wsX10)
def wsX2_greatestShoePressure : List Cond := .code yX2_greatestShoePressure cX2_greatestShoePressure 1 (some .int) :: ([.fieldLink RX2 10 "WellControl" "well" "LWellControl$Well;", .fieldLink RX2 117 "WellControl$Well" "greatestAtShoe" "I"] ++ wsX20 ++ wsX10)
def wsX2_undo : List Cond := .code yX2_undo cX2_undo 2 (some .int) :: ([.fieldLink RX2 23 "WellControl" "savedCount" "I", .fieldLink RX2 19 "WellControl" "saved" "[LWellControl$Well;", .fieldLink RX2 10 "WellControl" "well" "LWellControl$Well;", .methodLink RX2 35 yX2_refuse, .instanceMethod yX2_refuse, .selects RX2 yX2_refuse yX2_refuse, .initialized RX2, .code yX2_refuse cX2_refuse 2 (some .int), .fieldLink RX2 27 "WellControl" "errors" "[I", .methodLink RX2 31 yX2_within, .static yX2_within, .code yX2_within cX2_within 3 (some .boolean)] ++ wsX20)
def wsX2_errorCount : List Cond := .code yX2_errorCount cX2_errorCount 2 (some .int) :: ([.fieldLink RX2 27 "WellControl" "errors" "[I", .methodLink RX2 31 yX2_within, .static yX2_within, .initialized RX2, .code yX2_within cX2_within 3 (some .boolean), .methodLink RX2 35 yX2_refuse, .instanceMethod yX2_refuse, .selects RX2 yX2_refuse yX2_refuse, .code yX2_refuse cX2_refuse 2 (some .int)] ++ wsX20)
def wsX2_digest_r1 : List Cond := [Cond.constantLong RX2 158 (2693), Cond.fieldLink RX2 27 "WellControl" "errors" "[I", Cond.fieldLink RX2 10 "WellControl" "well" "LWellControl$Well;", Cond.fieldLink RX2 168 "WellControl$Well" "pipe" "LWellControl$Column;", Cond.fieldLink RX2 175 "WellControl$Well" "annulus" "LWellControl$Column;", Cond.fieldLink RX2 23 "WellControl" "savedCount" "I", Cond.methodLink RX2 160 yX2_mixed, Cond.static yX2_mixed, Cond.initialized RX2, Cond.code yX2_mixed cX2_mixed 4 (some .long), Cond.constantLong RX2 181 (31), Cond.methodLink RX2 164 yX1_mixedSettings, Cond.instanceMethod yX1_mixedSettings, Cond.selects RX1 yX1_mixedSettings yX1_mixedSettings, Cond.initialized RX1, Cond.code yX1_mixedSettings cX1_mixedSettings 3 (some .long), Cond.fieldLink RX1 9 "WellControl$Well" "depth" "I", Cond.fieldLink RX1 15 "WellControl$Well" "pipeCapacity" "I", Cond.fieldLink RX1 18 "WellControl$Well" "annulusCapacity" "I", Cond.fieldLink RX1 21 "WellControl$Well" "shoe" "I", Cond.fieldLink RX1 24 "WellControl$Well" "mud" "I", Cond.fieldLink RX1 27 "WellControl$Well" "formation" "I", Cond.fieldLink RX1 30 "WellControl$Well" "slowPump" "I", Cond.fieldLink RX1 33 "WellControl$Well" "fracture" "I"]
def wsX2_digest_r2 : List Cond := [Cond.methodLink RX2 172 yX0_mixedLayers, Cond.instanceMethod yX0_mixedLayers, Cond.selects RX0 yX0_mixedLayers yX0_mixedLayers, Cond.initialized RX0, Cond.code yX0_mixedLayers cX0_mixedLayers 5 (some .long), Cond.fieldLink RX0 26 "WellControl$Column" "count" "I", Cond.fieldLink RX0 9 "WellControl$Column" "volumes" "[I", Cond.fieldLink RX0 15 "WellControl$Column" "densities" "[I", Cond.methodLink RX0 50 yX0_placeOfIndex, Cond.instanceMethod yX0_placeOfIndex, Cond.selects RX0 yX0_placeOfIndex yX0_placeOfIndex, Cond.code yX0_placeOfIndex cX0_placeOfIndex 3 (some .int), Cond.fieldLink RX0 18 "WellControl$Column" "filledFromTop" "Z", Cond.fieldLink RX0 22 "WellControl$Column" "oldest" "I", Cond.methodLink RX0 44 yJ9_floorMod_7cf53, Cond.static yJ9_floorMod_7cf53, Cond.initialized RJ9, Cond.code yJ9_floorMod_7cf53 cJ9_floorMod_7cf53 3 (some .int), Cond.methodLink RX2 178 yX1_mixedReadings, Cond.instanceMethod yX1_mixedReadings, Cond.selects RX1 yX1_mixedReadings yX1_mixedReadings, Cond.code yX1_mixedReadings cX1_mixedReadings 3 (some .long), Cond.fieldLink RX1 65 "WellControl$Well" "gained" "I", Cond.fieldLink RX1 68 "WellControl$Well" "timesBroken" "I"]
def wsX2_digest_r3 : List Cond := [Cond.fieldLink RX1 71 "WellControl$Well" "greatestAtShoe" "I", Cond.methodLink RX1 131 yX1_pressureAtPipe, Cond.instanceMethod yX1_pressureAtPipe, Cond.selects RX1 yX1_pressureAtPipe yX1_pressureAtPipe, Cond.code yX1_pressureAtPipe cX1_pressureAtPipe 1 (some .int), Cond.methodLink RX1 99 Lib.Math.max.name, Cond.static Lib.Math.max.name, Cond.initialized "java/lang/Math", Cond.code Lib.Math.max.name Lib.Math.max.code 2 (some .int), Cond.methodLink RX1 128 yX1_pressureOfWhole, Cond.instanceMethod yX1_pressureOfWhole, Cond.selects RX1 yX1_pressureOfWhole yX1_pressureOfWhole, Cond.code yX1_pressureOfWhole cX1_pressureOfWhole 2 (some .int), Cond.fieldLink RX1 108 "WellControl$Column" "load" "J", Cond.methodLink RX1 104 yX1_column, Cond.instanceMethod yX1_column, Cond.selects RX1 yX1_column yX1_column, Cond.code yX1_column cX1_column 2 (some (.object "WellControl$Column")), Cond.fieldLink RX1 41 "WellControl$Well" "pipe" "LWellControl$Column;", Cond.fieldLink RX1 45 "WellControl$Well" "annulus" "LWellControl$Column;", Cond.methodLink RX1 112 yX1_capacity, Cond.instanceMethod yX1_capacity, Cond.selects RX1 yX1_capacity yX1_capacity, Cond.code yX1_capacity cX1_capacity 2 (some .int)]
def wsX2_digest_r4 : List Cond := [Cond.methodLink RX1 116 yX1_pressureOf, Cond.static yX1_pressureOf, Cond.code yX1_pressureOf cX1_pressureOf 3 (some .int), Cond.constantLong RX1 124 (981), Cond.constantLong RX1 126 (100000), Cond.methodLink RX1 134 yX1_pressureAtCasing, Cond.instanceMethod yX1_pressureAtCasing, Cond.selects RX1 yX1_pressureAtCasing yX1_pressureAtCasing, Cond.code yX1_pressureAtCasing cX1_pressureAtCasing 1 (some .int), Cond.methodLink RX1 148 yX1_pressureAtStandpipe, Cond.instanceMethod yX1_pressureAtStandpipe, Cond.selects RX1 yX1_pressureAtStandpipe yX1_pressureAtStandpipe, Cond.code yX1_pressureAtStandpipe cX1_pressureAtStandpipe 1 (some .int), Cond.methodLink RX1 96 yX1_pressureAtShoe, Cond.instanceMethod yX1_pressureAtShoe, Cond.selects RX1 yX1_pressureAtShoe yX1_pressureAtShoe, Cond.code yX1_pressureAtShoe cX1_pressureAtShoe 1 (some .int), Cond.methodLink RX1 137 yX1_pressureOfPart, Cond.instanceMethod yX1_pressureOfPart, Cond.selects RX1 yX1_pressureOfPart yX1_pressureOfPart, Cond.code yX1_pressureOfPart cX1_pressureOfPart 4 (some .int), Cond.methodLink RX1 120 yX0_loadAbove, Cond.instanceMethod yX0_loadAbove, Cond.selects RX0 yX0_loadAbove yX0_loadAbove]
def wsX2_digest_r5 : List Cond := [Cond.code yX0_loadAbove cX0_loadAbove 8 (some .long), Cond.methodLink RX0 60 Lib.Math.min.name, Cond.static Lib.Math.min.name, Cond.code Lib.Math.min.name Lib.Math.min.code 2 (some .int)]
def wsX2_digest : List Cond := .code yX2_digest cX2_digest 4 (some .long) :: ((wsX2_digest_r1 ++ (wsX2_digest_r2 ++ (wsX2_digest_r3 ++ (wsX2_digest_r4 ++ wsX2_digest_r5)))) ++ wsX20 ++ wsX10 ++ wsX00)
def wsX3_volumeAt : List Cond := .code yX3_volumeAt cX3_volumeAt 2 (some .int) :: ([])
def wsX3_volumeOf : List Cond := .code yX3_volumeOf cX3_volumeOf 2 (some .int) :: ([.fieldLink RX3 7 "WellControlModel" "now" "[I"] ++ wsX30)
def wsX3_densityAt : List Cond := .code yX3_densityAt cX3_densityAt 2 (some .int) :: ([.methodLink RX3 33 yX3_volumeAt, .static yX3_volumeAt, .initialized RX3, .code yX3_volumeAt cX3_volumeAt 2 (some .int)])
def wsX3_fill : List Cond := .code yX3_fill cX3_fill 2 none :: ([.fieldLink RX3 7 "WellControlModel" "now" "[I", .methodLink RX3 33 yX3_volumeAt, .static yX3_volumeAt, .initialized RX3, .code yX3_volumeAt cX3_volumeAt 2 (some .int), .methodLink RX3 37 yX3_volumeOf, .instanceMethod yX3_volumeOf, .selects RX3 yX3_volumeOf yX3_volumeOf, .code yX3_volumeOf cX3_volumeOf 2 (some .int), .methodLink RX3 41 yX3_densityAt, .static yX3_densityAt, .code yX3_densityAt cX3_densityAt 2 (some .int)] ++ wsX30)
def wsX3_init : List Cond := .code yX3_init cX3_init 1 none :: ([.methodLink RX3 1 objectInit, .instanceMethod objectInit, .code objectInit ⟨#[0xb1]⟩ 1 none, .arrayClass .int, .fieldLink RX3 7 "WellControlModel" "now" "[I", .fieldLink RX3 13 "WellControlModel" "aside" "[I", .fieldLink RX3 16 "WellControlModel" "past" "[I", .fieldLink RX3 19 "WellControlModel" "errors" "[I", .methodLink RX3 22 yX3_fill, .instanceMethod yX3_fill, .selects RX3 yX3_fill yX3_fill, .initialized RX3, .code yX3_fill cX3_fill 2 none, .methodLink RX3 33 yX3_volumeAt, .static yX3_volumeAt, .code yX3_volumeAt cX3_volumeAt 2 (some .int), .methodLink RX3 37 yX3_volumeOf, .instanceMethod yX3_volumeOf, .selects RX3 yX3_volumeOf yX3_volumeOf, .code yX3_volumeOf cX3_volumeOf 2 (some .int), .methodLink RX3 41 yX3_densityAt, .static yX3_densityAt, .code yX3_densityAt cX3_densityAt 2 (some .int)] ++ wsX30)
def wsX3_in : List Cond := .code yX3_in cX3_in 3 (some .boolean) :: ([])
def wsX3_error : List Cond := .code yX3_error cX3_error 2 (some .int) :: ([.fieldLink RX3 19 "WellControlModel" "errors" "[I"] ++ wsX30)
def wsX3_copy : List Cond := .code yX3_copy cX3_copy 7 none :: ([])
def wsX3_save : List Cond := .code yX3_save cX3_save 2 none :: ([.fieldLink RX3 25 "WellControlModel" "states" "I", .fieldLink RX3 16 "WellControlModel" "past" "[I", .fieldLink RX3 7 "WellControlModel" "now" "[I", .methodLink RX3 29 yX3_copy, .static yX3_copy, .initialized RX3, .code yX3_copy cX3_copy 7 none] ++ wsX30)
def wsX3_putOnTop : List Cond := .code yX3_putOnTop cX3_putOnTop 4 none :: ([.fieldLink RX3 7 "WellControlModel" "now" "[I", .methodLink RX3 41 yX3_densityAt, .static yX3_densityAt, .initialized RX3, .code yX3_densityAt cX3_densityAt 2 (some .int), .methodLink RX3 33 yX3_volumeAt, .static yX3_volumeAt, .code yX3_volumeAt cX3_volumeAt 2 (some .int)] ++ wsX30)
def wsX3_enter : List Cond := .code yX3_enter cX3_enter 4 none :: ([.fieldLink RX3 7 "WellControlModel" "now" "[I", .methodLink RX3 41 yX3_densityAt, .static yX3_densityAt, .initialized RX3, .code yX3_densityAt cX3_densityAt 2 (some .int), .methodLink RX3 33 yX3_volumeAt, .static yX3_volumeAt, .code yX3_volumeAt cX3_volumeAt 2 (some .int)] ++ wsX30)
def wsX3_passOver : List Cond := .code yX3_passOver cX3_passOver 5 none :: ([.fieldLink RX3 7 "WellControlModel" "now" "[I", .methodLink RX3 33 yX3_volumeAt, .static yX3_volumeAt, .initialized RX3, .code yX3_volumeAt cX3_volumeAt 2 (some .int), .methodLink RX3 41 yX3_densityAt, .static yX3_densityAt, .code yX3_densityAt cX3_densityAt 2 (some .int), .methodLink RX3 44 yX3_enter, .instanceMethod yX3_enter, .selects RX3 yX3_enter yX3_enter, .code yX3_enter cX3_enter 4 none] ++ wsX30)
def wsX3_leave : List Cond := .code yX3_leave cX3_leave 5 none :: ([.fieldLink RX3 7 "WellControlModel" "now" "[I", .methodLink RX3 33 yX3_volumeAt, .static yX3_volumeAt, .initialized RX3, .code yX3_volumeAt cX3_volumeAt 2 (some .int), .methodLink RX3 41 yX3_densityAt, .static yX3_densityAt, .code yX3_densityAt cX3_densityAt 2 (some .int)] ++ wsX30)
def wsX3_pumpMud : List Cond := .code yX3_pumpMud cX3_pumpMud 3 none :: ([.methodLink RX3 48 yX3_putOnTop, .instanceMethod yX3_putOnTop, .selects RX3 yX3_putOnTop yX3_putOnTop, .initialized RX3, .code yX3_putOnTop cX3_putOnTop 4 none, .fieldLink RX3 7 "WellControlModel" "now" "[I", .methodLink RX3 41 yX3_densityAt, .static yX3_densityAt, .code yX3_densityAt cX3_densityAt 2 (some .int), .methodLink RX3 33 yX3_volumeAt, .static yX3_volumeAt, .code yX3_volumeAt cX3_volumeAt 2 (some .int), .methodLink RX3 51 yX3_passOver, .instanceMethod yX3_passOver, .selects RX3 yX3_passOver yX3_passOver, .code yX3_passOver cX3_passOver 5 none, .methodLink RX3 44 yX3_enter, .instanceMethod yX3_enter, .selects RX3 yX3_enter yX3_enter, .code yX3_enter cX3_enter 4 none, .methodLink RX3 55 yX3_leave, .instanceMethod yX3_leave, .selects RX3 yX3_leave yX3_leave, .code yX3_leave cX3_leave 5 none] ++ wsX30)
def wsX3_pressureOf : List Cond := .code yX3_pressureOf cX3_pressureOf 8 (some .int) :: ([.fieldLink RX3 7 "WellControlModel" "now" "[I", .constantLong RX3 58 (981), .constantLong RX3 60 (100000), .methodLink RX3 33 yX3_volumeAt, .static yX3_volumeAt, .initialized RX3, .code yX3_volumeAt cX3_volumeAt 2 (some .int), .methodLink RX3 41 yX3_densityAt, .static yX3_densityAt, .code yX3_densityAt cX3_densityAt 2 (some .int)] ++ wsX30)
def wsX3_lacking : List Cond := .code yX3_lacking cX3_lacking 3 (some .int) :: ([.fieldLink RX3 7 "WellControlModel" "now" "[I", .methodLink RX3 62 yX3_pressureOf, .instanceMethod yX3_pressureOf, .selects RX3 yX3_pressureOf yX3_pressureOf, .initialized RX3, .code yX3_pressureOf cX3_pressureOf 8 (some .int), .constantLong RX3 58 (981), .constantLong RX3 60 (100000), .methodLink RX3 33 yX3_volumeAt, .static yX3_volumeAt, .code yX3_volumeAt cX3_volumeAt 2 (some .int), .methodLink RX3 41 yX3_densityAt, .static yX3_densityAt, .code yX3_densityAt cX3_densityAt 2 (some .int)] ++ wsX30)
def wsX3_atShoe : List Cond := .code yX3_atShoe cX3_atShoe 1 (some .int) :: ([.fieldLink RX3 7 "WellControlModel" "now" "[I", .methodLink RX3 65 yX3_lacking, .instanceMethod yX3_lacking, .selects RX3 yX3_lacking yX3_lacking, .initialized RX3, .code yX3_lacking cX3_lacking 3 (some .int), .methodLink RX3 62 yX3_pressureOf, .instanceMethod yX3_pressureOf, .selects RX3 yX3_pressureOf yX3_pressureOf, .code yX3_pressureOf cX3_pressureOf 8 (some .int), .constantLong RX3 58 (981), .constantLong RX3 60 (100000), .methodLink RX3 33 yX3_volumeAt, .static yX3_volumeAt, .code yX3_volumeAt cX3_volumeAt 2 (some .int), .methodLink RX3 41 yX3_densityAt, .static yX3_densityAt, .code yX3_densityAt cX3_densityAt 2 (some .int)] ++ wsX30)
def wsX3_check : List Cond := .code yX3_check cX3_check 2 none :: ([.fieldLink RX3 7 "WellControlModel" "now" "[I", .methodLink RX3 68 yX3_atShoe, .instanceMethod yX3_atShoe, .selects RX3 yX3_atShoe yX3_atShoe, .initialized RX3, .code yX3_atShoe cX3_atShoe 1 (some .int), .methodLink RX3 65 yX3_lacking, .instanceMethod yX3_lacking, .selects RX3 yX3_lacking yX3_lacking, .code yX3_lacking cX3_lacking 3 (some .int), .methodLink RX3 62 yX3_pressureOf, .instanceMethod yX3_pressureOf, .selects RX3 yX3_pressureOf yX3_pressureOf, .code yX3_pressureOf cX3_pressureOf 8 (some .int), .constantLong RX3 58 (981), .constantLong RX3 60 (100000), .methodLink RX3 33 yX3_volumeAt, .static yX3_volumeAt, .code yX3_volumeAt cX3_volumeAt 2 (some .int), .methodLink RX3 41 yX3_densityAt, .static yX3_densityAt, .code yX3_densityAt cX3_densityAt 2 (some .int)] ++ wsX30)
def wsX3_setGeometry_r1 : List Cond := [Cond.fieldLink RX3 7 "WellControlModel" "now" "[I", Cond.methodLink RX3 72 yX3_in, Cond.static yX3_in, Cond.initialized RX3, Cond.code yX3_in cX3_in 3 (some .boolean), Cond.methodLink RX3 76 yX3_error, Cond.instanceMethod yX3_error, Cond.selects RX3 yX3_error yX3_error, Cond.code yX3_error cX3_error 2 (some .int), Cond.fieldLink RX3 19 "WellControlModel" "errors" "[I", Cond.methodLink RX3 79 yX3_save, Cond.instanceMethod yX3_save, Cond.selects RX3 yX3_save yX3_save, Cond.code yX3_save cX3_save 2 none, Cond.fieldLink RX3 25 "WellControlModel" "states" "I", Cond.fieldLink RX3 16 "WellControlModel" "past" "[I", Cond.methodLink RX3 29 yX3_copy, Cond.static yX3_copy, Cond.code yX3_copy cX3_copy 7 none, Cond.methodLink RX3 22 yX3_fill, Cond.instanceMethod yX3_fill, Cond.selects RX3 yX3_fill yX3_fill, Cond.code yX3_fill cX3_fill 2 none, Cond.methodLink RX3 33 yX3_volumeAt]
def wsX3_setGeometry_r2 : List Cond := [Cond.static yX3_volumeAt, Cond.code yX3_volumeAt cX3_volumeAt 2 (some .int), Cond.methodLink RX3 37 yX3_volumeOf, Cond.instanceMethod yX3_volumeOf, Cond.selects RX3 yX3_volumeOf yX3_volumeOf, Cond.code yX3_volumeOf cX3_volumeOf 2 (some .int), Cond.methodLink RX3 41 yX3_densityAt, Cond.static yX3_densityAt, Cond.code yX3_densityAt cX3_densityAt 2 (some .int)]
def wsX3_setGeometry : List Cond := .code yX3_setGeometry cX3_setGeometry 5 (some .int) :: ((wsX3_setGeometry_r1 ++ wsX3_setGeometry_r2) ++ wsX30)
def wsX3_set : List Cond := .code yX3_set cX3_set 6 (some .int) :: ([.fieldLink RX3 7 "WellControlModel" "now" "[I", .methodLink RX3 72 yX3_in, .static yX3_in, .initialized RX3, .code yX3_in cX3_in 3 (some .boolean), .methodLink RX3 76 yX3_error, .instanceMethod yX3_error, .selects RX3 yX3_error yX3_error, .code yX3_error cX3_error 2 (some .int), .fieldLink RX3 19 "WellControlModel" "errors" "[I", .methodLink RX3 79 yX3_save, .instanceMethod yX3_save, .selects RX3 yX3_save yX3_save, .code yX3_save cX3_save 2 none, .fieldLink RX3 25 "WellControlModel" "states" "I", .fieldLink RX3 16 "WellControlModel" "past" "[I", .methodLink RX3 29 yX3_copy, .static yX3_copy, .code yX3_copy cX3_copy 7 none] ++ wsX30)
def wsX3_setMud : List Cond := .code yX3_setMud cX3_setMud 2 (some .int) :: ([.methodLink RX3 82 yX3_set, .instanceMethod yX3_set, .selects RX3 yX3_set yX3_set, .initialized RX3, .code yX3_set cX3_set 6 (some .int), .fieldLink RX3 7 "WellControlModel" "now" "[I", .methodLink RX3 72 yX3_in, .static yX3_in, .code yX3_in cX3_in 3 (some .boolean), .methodLink RX3 76 yX3_error, .instanceMethod yX3_error, .selects RX3 yX3_error yX3_error, .code yX3_error cX3_error 2 (some .int), .fieldLink RX3 19 "WellControlModel" "errors" "[I", .methodLink RX3 79 yX3_save, .instanceMethod yX3_save, .selects RX3 yX3_save yX3_save, .code yX3_save cX3_save 2 none, .fieldLink RX3 25 "WellControlModel" "states" "I", .fieldLink RX3 16 "WellControlModel" "past" "[I", .methodLink RX3 29 yX3_copy, .static yX3_copy, .code yX3_copy cX3_copy 7 none] ++ wsX30)
def wsX3_setFormation : List Cond := .code yX3_setFormation cX3_setFormation 2 (some .int) :: ([.constant RX3 86 (60000), .methodLink RX3 82 yX3_set, .instanceMethod yX3_set, .selects RX3 yX3_set yX3_set, .initialized RX3, .code yX3_set cX3_set 6 (some .int), .fieldLink RX3 7 "WellControlModel" "now" "[I", .methodLink RX3 72 yX3_in, .static yX3_in, .code yX3_in cX3_in 3 (some .boolean), .methodLink RX3 76 yX3_error, .instanceMethod yX3_error, .selects RX3 yX3_error yX3_error, .code yX3_error cX3_error 2 (some .int), .fieldLink RX3 19 "WellControlModel" "errors" "[I", .methodLink RX3 79 yX3_save, .instanceMethod yX3_save, .selects RX3 yX3_save yX3_save, .code yX3_save cX3_save 2 none, .fieldLink RX3 25 "WellControlModel" "states" "I", .fieldLink RX3 16 "WellControlModel" "past" "[I", .methodLink RX3 29 yX3_copy, .static yX3_copy, .code yX3_copy cX3_copy 7 none] ++ wsX30)
def wsX3_setSlowPump : List Cond := .code yX3_setSlowPump cX3_setSlowPump 2 (some .int) :: ([.methodLink RX3 82 yX3_set, .instanceMethod yX3_set, .selects RX3 yX3_set yX3_set, .initialized RX3, .code yX3_set cX3_set 6 (some .int), .fieldLink RX3 7 "WellControlModel" "now" "[I", .methodLink RX3 72 yX3_in, .static yX3_in, .code yX3_in cX3_in 3 (some .boolean), .methodLink RX3 76 yX3_error, .instanceMethod yX3_error, .selects RX3 yX3_error yX3_error, .code yX3_error cX3_error 2 (some .int), .fieldLink RX3 19 "WellControlModel" "errors" "[I", .methodLink RX3 79 yX3_save, .instanceMethod yX3_save, .selects RX3 yX3_save yX3_save, .code yX3_save cX3_save 2 none, .fieldLink RX3 25 "WellControlModel" "states" "I", .fieldLink RX3 16 "WellControlModel" "past" "[I", .methodLink RX3 29 yX3_copy, .static yX3_copy, .code yX3_copy cX3_copy 7 none] ++ wsX30)
def wsX3_setFracture : List Cond := .code yX3_setFracture cX3_setFracture 2 (some .int) :: ([.constant RX3 86 (60000), .methodLink RX3 82 yX3_set, .instanceMethod yX3_set, .selects RX3 yX3_set yX3_set, .initialized RX3, .code yX3_set cX3_set 6 (some .int), .fieldLink RX3 7 "WellControlModel" "now" "[I", .methodLink RX3 72 yX3_in, .static yX3_in, .code yX3_in cX3_in 3 (some .boolean), .methodLink RX3 76 yX3_error, .instanceMethod yX3_error, .selects RX3 yX3_error yX3_error, .code yX3_error cX3_error 2 (some .int), .fieldLink RX3 19 "WellControlModel" "errors" "[I", .methodLink RX3 79 yX3_save, .instanceMethod yX3_save, .selects RX3 yX3_save yX3_save, .code yX3_save cX3_save 2 none, .fieldLink RX3 25 "WellControlModel" "states" "I", .fieldLink RX3 16 "WellControlModel" "past" "[I", .methodLink RX3 29 yX3_copy, .static yX3_copy, .code yX3_copy cX3_copy 7 none] ++ wsX30)
def wsX3_pump_r1 : List Cond := [Cond.fieldLink RX3 7 "WellControlModel" "now" "[I", Cond.methodLink RX3 76 yX3_error, Cond.instanceMethod yX3_error, Cond.selects RX3 yX3_error yX3_error, Cond.initialized RX3, Cond.code yX3_error cX3_error 2 (some .int), Cond.fieldLink RX3 19 "WellControlModel" "errors" "[I", Cond.methodLink RX3 37 yX3_volumeOf, Cond.instanceMethod yX3_volumeOf, Cond.selects RX3 yX3_volumeOf yX3_volumeOf, Cond.code yX3_volumeOf cX3_volumeOf 2 (some .int), Cond.methodLink RX3 79 yX3_save, Cond.instanceMethod yX3_save, Cond.selects RX3 yX3_save yX3_save, Cond.code yX3_save cX3_save 2 none, Cond.fieldLink RX3 25 "WellControlModel" "states" "I", Cond.fieldLink RX3 16 "WellControlModel" "past" "[I", Cond.methodLink RX3 29 yX3_copy, Cond.static yX3_copy, Cond.code yX3_copy cX3_copy 7 none, Cond.methodLink RX3 87 yX3_pumpMud, Cond.instanceMethod yX3_pumpMud, Cond.selects RX3 yX3_pumpMud yX3_pumpMud, Cond.code yX3_pumpMud cX3_pumpMud 3 none]
def wsX3_pump_r2 : List Cond := [Cond.methodLink RX3 48 yX3_putOnTop, Cond.instanceMethod yX3_putOnTop, Cond.selects RX3 yX3_putOnTop yX3_putOnTop, Cond.code yX3_putOnTop cX3_putOnTop 4 none, Cond.methodLink RX3 41 yX3_densityAt, Cond.static yX3_densityAt, Cond.code yX3_densityAt cX3_densityAt 2 (some .int), Cond.methodLink RX3 33 yX3_volumeAt, Cond.static yX3_volumeAt, Cond.code yX3_volumeAt cX3_volumeAt 2 (some .int), Cond.methodLink RX3 51 yX3_passOver, Cond.instanceMethod yX3_passOver, Cond.selects RX3 yX3_passOver yX3_passOver, Cond.code yX3_passOver cX3_passOver 5 none, Cond.methodLink RX3 44 yX3_enter, Cond.instanceMethod yX3_enter, Cond.selects RX3 yX3_enter yX3_enter, Cond.code yX3_enter cX3_enter 4 none, Cond.methodLink RX3 55 yX3_leave, Cond.instanceMethod yX3_leave, Cond.selects RX3 yX3_leave yX3_leave, Cond.code yX3_leave cX3_leave 5 none, Cond.methodLink RX3 90 yX3_check, Cond.instanceMethod yX3_check]
def wsX3_pump_r3 : List Cond := [Cond.selects RX3 yX3_check yX3_check, Cond.code yX3_check cX3_check 2 none, Cond.methodLink RX3 68 yX3_atShoe, Cond.instanceMethod yX3_atShoe, Cond.selects RX3 yX3_atShoe yX3_atShoe, Cond.code yX3_atShoe cX3_atShoe 1 (some .int), Cond.methodLink RX3 65 yX3_lacking, Cond.instanceMethod yX3_lacking, Cond.selects RX3 yX3_lacking yX3_lacking, Cond.code yX3_lacking cX3_lacking 3 (some .int), Cond.methodLink RX3 62 yX3_pressureOf, Cond.instanceMethod yX3_pressureOf, Cond.selects RX3 yX3_pressureOf yX3_pressureOf, Cond.code yX3_pressureOf cX3_pressureOf 8 (some .int), Cond.constantLong RX3 58 (981), Cond.constantLong RX3 60 (100000)]
def wsX3_pump : List Cond := .code yX3_pump cX3_pump 2 (some .int) :: ((wsX3_pump_r1 ++ (wsX3_pump_r2 ++ wsX3_pump_r3)) ++ wsX30)
def wsX3_influx_r1 : List Cond := [Cond.fieldLink RX3 7 "WellControlModel" "now" "[I", Cond.methodLink RX3 72 yX3_in, Cond.static yX3_in, Cond.initialized RX3, Cond.code yX3_in cX3_in 3 (some .boolean), Cond.methodLink RX3 76 yX3_error, Cond.instanceMethod yX3_error, Cond.selects RX3 yX3_error yX3_error, Cond.code yX3_error cX3_error 2 (some .int), Cond.fieldLink RX3 19 "WellControlModel" "errors" "[I", Cond.methodLink RX3 37 yX3_volumeOf, Cond.instanceMethod yX3_volumeOf, Cond.selects RX3 yX3_volumeOf yX3_volumeOf, Cond.code yX3_volumeOf cX3_volumeOf 2 (some .int), Cond.methodLink RX3 79 yX3_save, Cond.instanceMethod yX3_save, Cond.selects RX3 yX3_save yX3_save, Cond.code yX3_save cX3_save 2 none, Cond.fieldLink RX3 25 "WellControlModel" "states" "I", Cond.fieldLink RX3 16 "WellControlModel" "past" "[I", Cond.methodLink RX3 29 yX3_copy, Cond.static yX3_copy, Cond.code yX3_copy cX3_copy 7 none, Cond.methodLink RX3 44 yX3_enter]
def wsX3_influx_r2 : List Cond := [Cond.instanceMethod yX3_enter, Cond.selects RX3 yX3_enter yX3_enter, Cond.code yX3_enter cX3_enter 4 none, Cond.methodLink RX3 41 yX3_densityAt, Cond.static yX3_densityAt, Cond.code yX3_densityAt cX3_densityAt 2 (some .int), Cond.methodLink RX3 33 yX3_volumeAt, Cond.static yX3_volumeAt, Cond.code yX3_volumeAt cX3_volumeAt 2 (some .int), Cond.methodLink RX3 55 yX3_leave, Cond.instanceMethod yX3_leave, Cond.selects RX3 yX3_leave yX3_leave, Cond.code yX3_leave cX3_leave 5 none, Cond.methodLink RX3 90 yX3_check, Cond.instanceMethod yX3_check, Cond.selects RX3 yX3_check yX3_check, Cond.code yX3_check cX3_check 2 none, Cond.methodLink RX3 68 yX3_atShoe, Cond.instanceMethod yX3_atShoe, Cond.selects RX3 yX3_atShoe yX3_atShoe, Cond.code yX3_atShoe cX3_atShoe 1 (some .int), Cond.methodLink RX3 65 yX3_lacking, Cond.instanceMethod yX3_lacking, Cond.selects RX3 yX3_lacking yX3_lacking]
def wsX3_influx_r3 : List Cond := [Cond.code yX3_lacking cX3_lacking 3 (some .int), Cond.methodLink RX3 62 yX3_pressureOf, Cond.instanceMethod yX3_pressureOf, Cond.selects RX3 yX3_pressureOf yX3_pressureOf, Cond.code yX3_pressureOf cX3_pressureOf 8 (some .int), Cond.constantLong RX3 58 (981), Cond.constantLong RX3 60 (100000)]
def wsX3_influx : List Cond := .code yX3_influx cX3_influx 3 (some .int) :: ((wsX3_influx_r1 ++ (wsX3_influx_r2 ++ wsX3_influx_r3)) ++ wsX30)
def wsX3_isColumn : List Cond := .code yX3_isColumn cX3_isColumn 1 (some .boolean) :: ([.methodLink RX3 72 yX3_in, .static yX3_in, .initialized RX3, .code yX3_in cX3_in 3 (some .boolean)])
def wsX3_hydrostatic_r1 : List Cond := [Cond.fieldLink RX3 7 "WellControlModel" "now" "[I", Cond.methodLink RX3 93 yX3_isColumn, Cond.static yX3_isColumn, Cond.initialized RX3, Cond.code yX3_isColumn cX3_isColumn 1 (some .boolean), Cond.methodLink RX3 72 yX3_in, Cond.static yX3_in, Cond.code yX3_in cX3_in 3 (some .boolean), Cond.methodLink RX3 62 yX3_pressureOf, Cond.instanceMethod yX3_pressureOf, Cond.selects RX3 yX3_pressureOf yX3_pressureOf, Cond.code yX3_pressureOf cX3_pressureOf 8 (some .int), Cond.constantLong RX3 58 (981), Cond.constantLong RX3 60 (100000), Cond.methodLink RX3 33 yX3_volumeAt, Cond.static yX3_volumeAt, Cond.code yX3_volumeAt cX3_volumeAt 2 (some .int), Cond.methodLink RX3 41 yX3_densityAt, Cond.static yX3_densityAt, Cond.code yX3_densityAt cX3_densityAt 2 (some .int), Cond.methodLink RX3 76 yX3_error, Cond.instanceMethod yX3_error, Cond.selects RX3 yX3_error yX3_error, Cond.code yX3_error cX3_error 2 (some .int)]
def wsX3_hydrostatic_r2 : List Cond := [Cond.fieldLink RX3 19 "WellControlModel" "errors" "[I"]
def wsX3_hydrostatic : List Cond := .code yX3_hydrostatic cX3_hydrostatic 2 (some .int) :: ((wsX3_hydrostatic_r1 ++ wsX3_hydrostatic_r2) ++ wsX30)
def wsX3_hydrostaticAbove_r1 : List Cond := [Cond.fieldLink RX3 7 "WellControlModel" "now" "[I", Cond.methodLink RX3 93 yX3_isColumn, Cond.static yX3_isColumn, Cond.initialized RX3, Cond.code yX3_isColumn cX3_isColumn 1 (some .boolean), Cond.methodLink RX3 72 yX3_in, Cond.static yX3_in, Cond.code yX3_in cX3_in 3 (some .boolean), Cond.methodLink RX3 62 yX3_pressureOf, Cond.instanceMethod yX3_pressureOf, Cond.selects RX3 yX3_pressureOf yX3_pressureOf, Cond.code yX3_pressureOf cX3_pressureOf 8 (some .int), Cond.constantLong RX3 58 (981), Cond.constantLong RX3 60 (100000), Cond.methodLink RX3 33 yX3_volumeAt, Cond.static yX3_volumeAt, Cond.code yX3_volumeAt cX3_volumeAt 2 (some .int), Cond.methodLink RX3 41 yX3_densityAt, Cond.static yX3_densityAt, Cond.code yX3_densityAt cX3_densityAt 2 (some .int), Cond.methodLink RX3 76 yX3_error, Cond.instanceMethod yX3_error, Cond.selects RX3 yX3_error yX3_error, Cond.code yX3_error cX3_error 2 (some .int)]
def wsX3_hydrostaticAbove_r2 : List Cond := [Cond.fieldLink RX3 19 "WellControlModel" "errors" "[I"]
def wsX3_hydrostaticAbove : List Cond := .code yX3_hydrostaticAbove cX3_hydrostaticAbove 3 (some .int) :: ((wsX3_hydrostaticAbove_r1 ++ wsX3_hydrostaticAbove_r2) ++ wsX30)
def wsX3_drillPipePressure : List Cond := .code yX3_drillPipePressure cX3_drillPipePressure 1 (some .int) :: ([.methodLink RX3 65 yX3_lacking, .instanceMethod yX3_lacking, .selects RX3 yX3_lacking yX3_lacking, .initialized RX3, .code yX3_lacking cX3_lacking 3 (some .int), .fieldLink RX3 7 "WellControlModel" "now" "[I", .methodLink RX3 62 yX3_pressureOf, .instanceMethod yX3_pressureOf, .selects RX3 yX3_pressureOf yX3_pressureOf, .code yX3_pressureOf cX3_pressureOf 8 (some .int), .constantLong RX3 58 (981), .constantLong RX3 60 (100000), .methodLink RX3 33 yX3_volumeAt, .static yX3_volumeAt, .code yX3_volumeAt cX3_volumeAt 2 (some .int), .methodLink RX3 41 yX3_densityAt, .static yX3_densityAt, .code yX3_densityAt cX3_densityAt 2 (some .int)] ++ wsX30)
def wsX3_casingPressure : List Cond := .code yX3_casingPressure cX3_casingPressure 1 (some .int) :: ([.methodLink RX3 65 yX3_lacking, .instanceMethod yX3_lacking, .selects RX3 yX3_lacking yX3_lacking, .initialized RX3, .code yX3_lacking cX3_lacking 3 (some .int), .fieldLink RX3 7 "WellControlModel" "now" "[I", .methodLink RX3 62 yX3_pressureOf, .instanceMethod yX3_pressureOf, .selects RX3 yX3_pressureOf yX3_pressureOf, .code yX3_pressureOf cX3_pressureOf 8 (some .int), .constantLong RX3 58 (981), .constantLong RX3 60 (100000), .methodLink RX3 33 yX3_volumeAt, .static yX3_volumeAt, .code yX3_volumeAt cX3_volumeAt 2 (some .int), .methodLink RX3 41 yX3_densityAt, .static yX3_densityAt, .code yX3_densityAt cX3_densityAt 2 (some .int)] ++ wsX30)
def wsX3_standpipePressure : List Cond := .code yX3_standpipePressure cX3_standpipePressure 1 (some .int) :: ([.fieldLink RX3 7 "WellControlModel" "now" "[I", .methodLink RX3 65 yX3_lacking, .instanceMethod yX3_lacking, .selects RX3 yX3_lacking yX3_lacking, .initialized RX3, .code yX3_lacking cX3_lacking 3 (some .int), .methodLink RX3 62 yX3_pressureOf, .instanceMethod yX3_pressureOf, .selects RX3 yX3_pressureOf yX3_pressureOf, .code yX3_pressureOf cX3_pressureOf 8 (some .int), .constantLong RX3 58 (981), .constantLong RX3 60 (100000), .methodLink RX3 33 yX3_volumeAt, .static yX3_volumeAt, .code yX3_volumeAt cX3_volumeAt 2 (some .int), .methodLink RX3 41 yX3_densityAt, .static yX3_densityAt, .code yX3_densityAt cX3_densityAt 2 (some .int)] ++ wsX30)
def wsX3_shoePressure : List Cond := .code yX3_shoePressure cX3_shoePressure 1 (some .int) :: ([.methodLink RX3 68 yX3_atShoe, .instanceMethod yX3_atShoe, .selects RX3 yX3_atShoe yX3_atShoe, .initialized RX3, .code yX3_atShoe cX3_atShoe 1 (some .int), .fieldLink RX3 7 "WellControlModel" "now" "[I", .methodLink RX3 65 yX3_lacking, .instanceMethod yX3_lacking, .selects RX3 yX3_lacking yX3_lacking, .code yX3_lacking cX3_lacking 3 (some .int), .methodLink RX3 62 yX3_pressureOf, .instanceMethod yX3_pressureOf, .selects RX3 yX3_pressureOf yX3_pressureOf, .code yX3_pressureOf cX3_pressureOf 8 (some .int), .constantLong RX3 58 (981), .constantLong RX3 60 (100000), .methodLink RX3 33 yX3_volumeAt, .static yX3_volumeAt, .code yX3_volumeAt cX3_volumeAt 2 (some .int), .methodLink RX3 41 yX3_densityAt, .static yX3_densityAt, .code yX3_densityAt cX3_densityAt 2 (some .int)] ++ wsX30)
def wsX3_allowedCasingPressure : List Cond := .code yX3_allowedCasingPressure cX3_allowedCasingPressure 1 (some .int) :: ([.fieldLink RX3 7 "WellControlModel" "now" "[I", .methodLink RX3 62 yX3_pressureOf, .instanceMethod yX3_pressureOf, .selects RX3 yX3_pressureOf yX3_pressureOf, .initialized RX3, .code yX3_pressureOf cX3_pressureOf 8 (some .int), .constantLong RX3 58 (981), .constantLong RX3 60 (100000), .methodLink RX3 33 yX3_volumeAt, .static yX3_volumeAt, .code yX3_volumeAt cX3_volumeAt 2 (some .int), .methodLink RX3 41 yX3_densityAt, .static yX3_densityAt, .code yX3_densityAt cX3_densityAt 2 (some .int)] ++ wsX30)
def wsX3_leastDensity : List Cond := .code yX3_leastDensity cX3_leastDensity 4 (some .int) :: ([.constantLong RX3 58 (981), .constantLong RX3 60 (100000), .fieldLink RX3 7 "WellControlModel" "now" "[I", .methodLink RX3 37 yX3_volumeOf, .instanceMethod yX3_volumeOf, .selects RX3 yX3_volumeOf yX3_volumeOf, .initialized RX3, .code yX3_volumeOf cX3_volumeOf 2 (some .int)] ++ wsX30)
def wsX3_killDensity : List Cond := .code yX3_killDensity cX3_killDensity 2 (some .int) :: ([.methodLink RX3 97 yX3_leastDensity, .instanceMethod yX3_leastDensity, .selects RX3 yX3_leastDensity yX3_leastDensity, .initialized RX3, .code yX3_leastDensity cX3_leastDensity 4 (some .int), .constantLong RX3 58 (981), .constantLong RX3 60 (100000), .fieldLink RX3 7 "WellControlModel" "now" "[I", .methodLink RX3 37 yX3_volumeOf, .instanceMethod yX3_volumeOf, .selects RX3 yX3_volumeOf yX3_volumeOf, .code yX3_volumeOf cX3_volumeOf 2 (some .int), .methodLink RX3 76 yX3_error, .instanceMethod yX3_error, .selects RX3 yX3_error yX3_error, .code yX3_error cX3_error 2 (some .int), .fieldLink RX3 19 "WellControlModel" "errors" "[I"] ++ wsX30)
def wsX3_pumpAll_r1 : List Cond := [Cond.methodLink RX3 87 yX3_pumpMud, Cond.instanceMethod yX3_pumpMud, Cond.selects RX3 yX3_pumpMud yX3_pumpMud, Cond.initialized RX3, Cond.code yX3_pumpMud cX3_pumpMud 3 none, Cond.methodLink RX3 48 yX3_putOnTop, Cond.instanceMethod yX3_putOnTop, Cond.selects RX3 yX3_putOnTop yX3_putOnTop, Cond.code yX3_putOnTop cX3_putOnTop 4 none, Cond.fieldLink RX3 7 "WellControlModel" "now" "[I", Cond.methodLink RX3 41 yX3_densityAt, Cond.static yX3_densityAt, Cond.code yX3_densityAt cX3_densityAt 2 (some .int), Cond.methodLink RX3 33 yX3_volumeAt, Cond.static yX3_volumeAt, Cond.code yX3_volumeAt cX3_volumeAt 2 (some .int), Cond.methodLink RX3 51 yX3_passOver, Cond.instanceMethod yX3_passOver, Cond.selects RX3 yX3_passOver yX3_passOver, Cond.code yX3_passOver cX3_passOver 5 none, Cond.methodLink RX3 44 yX3_enter, Cond.instanceMethod yX3_enter, Cond.selects RX3 yX3_enter yX3_enter, Cond.code yX3_enter cX3_enter 4 none]
def wsX3_pumpAll_r2 : List Cond := [Cond.methodLink RX3 55 yX3_leave, Cond.instanceMethod yX3_leave, Cond.selects RX3 yX3_leave yX3_leave, Cond.code yX3_leave cX3_leave 5 none, Cond.methodLink RX3 68 yX3_atShoe, Cond.instanceMethod yX3_atShoe, Cond.selects RX3 yX3_atShoe yX3_atShoe, Cond.code yX3_atShoe cX3_atShoe 1 (some .int), Cond.methodLink RX3 65 yX3_lacking, Cond.instanceMethod yX3_lacking, Cond.selects RX3 yX3_lacking yX3_lacking, Cond.code yX3_lacking cX3_lacking 3 (some .int), Cond.methodLink RX3 62 yX3_pressureOf, Cond.instanceMethod yX3_pressureOf, Cond.selects RX3 yX3_pressureOf yX3_pressureOf, Cond.code yX3_pressureOf cX3_pressureOf 8 (some .int), Cond.constantLong RX3 58 (981), Cond.constantLong RX3 60 (100000)]
def wsX3_pumpAll : List Cond := .code yX3_pumpAll cX3_pumpAll 8 (some .int) :: ((wsX3_pumpAll_r1 ++ wsX3_pumpAll_r2) ++ wsX30)
def wsX3_killShoePressure_r1 : List Cond := [Cond.fieldLink RX3 7 "WellControlModel" "now" "[I", Cond.fieldLink RX3 13 "WellControlModel" "aside" "[I", Cond.methodLink RX3 72 yX3_in, Cond.static yX3_in, Cond.initialized RX3, Cond.code yX3_in cX3_in 3 (some .boolean), Cond.methodLink RX3 76 yX3_error, Cond.instanceMethod yX3_error, Cond.selects RX3 yX3_error yX3_error, Cond.code yX3_error cX3_error 2 (some .int), Cond.fieldLink RX3 19 "WellControlModel" "errors" "[I", Cond.methodLink RX3 37 yX3_volumeOf, Cond.instanceMethod yX3_volumeOf, Cond.selects RX3 yX3_volumeOf yX3_volumeOf, Cond.code yX3_volumeOf cX3_volumeOf 2 (some .int), Cond.methodLink RX3 97 yX3_leastDensity, Cond.instanceMethod yX3_leastDensity, Cond.selects RX3 yX3_leastDensity yX3_leastDensity, Cond.code yX3_leastDensity cX3_leastDensity 4 (some .int), Cond.constantLong RX3 58 (981), Cond.constantLong RX3 60 (100000), Cond.methodLink RX3 29 yX3_copy, Cond.static yX3_copy, Cond.code yX3_copy cX3_copy 7 none]
def wsX3_killShoePressure_r2 : List Cond := [Cond.methodLink RX3 100 yX3_pumpAll, Cond.instanceMethod yX3_pumpAll, Cond.selects RX3 yX3_pumpAll yX3_pumpAll, Cond.code yX3_pumpAll cX3_pumpAll 8 (some .int), Cond.methodLink RX3 87 yX3_pumpMud, Cond.instanceMethod yX3_pumpMud, Cond.selects RX3 yX3_pumpMud yX3_pumpMud, Cond.code yX3_pumpMud cX3_pumpMud 3 none, Cond.methodLink RX3 48 yX3_putOnTop, Cond.instanceMethod yX3_putOnTop, Cond.selects RX3 yX3_putOnTop yX3_putOnTop, Cond.code yX3_putOnTop cX3_putOnTop 4 none, Cond.methodLink RX3 41 yX3_densityAt, Cond.static yX3_densityAt, Cond.code yX3_densityAt cX3_densityAt 2 (some .int), Cond.methodLink RX3 33 yX3_volumeAt, Cond.static yX3_volumeAt, Cond.code yX3_volumeAt cX3_volumeAt 2 (some .int), Cond.methodLink RX3 51 yX3_passOver, Cond.instanceMethod yX3_passOver, Cond.selects RX3 yX3_passOver yX3_passOver, Cond.code yX3_passOver cX3_passOver 5 none, Cond.methodLink RX3 44 yX3_enter, Cond.instanceMethod yX3_enter]
def wsX3_killShoePressure_r3 : List Cond := [Cond.selects RX3 yX3_enter yX3_enter, Cond.code yX3_enter cX3_enter 4 none, Cond.methodLink RX3 55 yX3_leave, Cond.instanceMethod yX3_leave, Cond.selects RX3 yX3_leave yX3_leave, Cond.code yX3_leave cX3_leave 5 none, Cond.methodLink RX3 68 yX3_atShoe, Cond.instanceMethod yX3_atShoe, Cond.selects RX3 yX3_atShoe yX3_atShoe, Cond.code yX3_atShoe cX3_atShoe 1 (some .int), Cond.methodLink RX3 65 yX3_lacking, Cond.instanceMethod yX3_lacking, Cond.selects RX3 yX3_lacking yX3_lacking, Cond.code yX3_lacking cX3_lacking 3 (some .int), Cond.methodLink RX3 62 yX3_pressureOf, Cond.instanceMethod yX3_pressureOf, Cond.selects RX3 yX3_pressureOf yX3_pressureOf, Cond.code yX3_pressureOf cX3_pressureOf 8 (some .int)]
def wsX3_killShoePressure : List Cond := .code yX3_killShoePressure cX3_killShoePressure 5 (some .int) :: ((wsX3_killShoePressure_r1 ++ (wsX3_killShoePressure_r2 ++ wsX3_killShoePressure_r3)) ++ wsX30)
def wsX3_schedule_r1 : List Cond := [Cond.fieldLink RX3 7 "WellControlModel" "now" "[I", Cond.constantLong RX3 103 (100), Cond.methodLink RX3 72 yX3_in, Cond.static yX3_in, Cond.initialized RX3, Cond.code yX3_in cX3_in 3 (some .boolean), Cond.methodLink RX3 76 yX3_error, Cond.instanceMethod yX3_error, Cond.selects RX3 yX3_error yX3_error, Cond.code yX3_error cX3_error 2 (some .int), Cond.fieldLink RX3 19 "WellControlModel" "errors" "[I", Cond.methodLink RX3 97 yX3_leastDensity, Cond.instanceMethod yX3_leastDensity, Cond.selects RX3 yX3_leastDensity yX3_leastDensity, Cond.code yX3_leastDensity cX3_leastDensity 4 (some .int), Cond.constantLong RX3 58 (981), Cond.constantLong RX3 60 (100000), Cond.methodLink RX3 37 yX3_volumeOf, Cond.instanceMethod yX3_volumeOf, Cond.selects RX3 yX3_volumeOf yX3_volumeOf, Cond.code yX3_volumeOf cX3_volumeOf 2 (some .int), Cond.methodLink RX3 65 yX3_lacking, Cond.instanceMethod yX3_lacking, Cond.selects RX3 yX3_lacking yX3_lacking]
def wsX3_schedule_r2 : List Cond := [Cond.code yX3_lacking cX3_lacking 3 (some .int), Cond.methodLink RX3 62 yX3_pressureOf, Cond.instanceMethod yX3_pressureOf, Cond.selects RX3 yX3_pressureOf yX3_pressureOf, Cond.code yX3_pressureOf cX3_pressureOf 8 (some .int), Cond.methodLink RX3 33 yX3_volumeAt, Cond.static yX3_volumeAt, Cond.code yX3_volumeAt cX3_volumeAt 2 (some .int), Cond.methodLink RX3 41 yX3_densityAt, Cond.static yX3_densityAt, Cond.code yX3_densityAt cX3_densityAt 2 (some .int)]
def wsX3_schedule : List Cond := .code yX3_schedule cX3_schedule 7 (some .int) :: ((wsX3_schedule_r1 ++ wsX3_schedule_r2) ++ wsX30)
def wsX3_strokesToBit : List Cond := .code yX3_strokesToBit cX3_strokesToBit 2 (some .int) :: ([.methodLink RX3 72 yX3_in, .static yX3_in, .initialized RX3, .code yX3_in cX3_in 3 (some .boolean), .methodLink RX3 37 yX3_volumeOf, .instanceMethod yX3_volumeOf, .selects RX3 yX3_volumeOf yX3_volumeOf, .code yX3_volumeOf cX3_volumeOf 2 (some .int), .fieldLink RX3 7 "WellControlModel" "now" "[I", .methodLink RX3 76 yX3_error, .instanceMethod yX3_error, .selects RX3 yX3_error yX3_error, .code yX3_error cX3_error 2 (some .int), .fieldLink RX3 19 "WellControlModel" "errors" "[I"] ++ wsX30)
def wsX3_layers : List Cond := .code yX3_layers cX3_layers 2 (some .int) :: ([.fieldLink RX3 7 "WellControlModel" "now" "[I", .methodLink RX3 93 yX3_isColumn, .static yX3_isColumn, .initialized RX3, .code yX3_isColumn cX3_isColumn 1 (some .boolean), .methodLink RX3 72 yX3_in, .static yX3_in, .code yX3_in cX3_in 3 (some .boolean), .methodLink RX3 76 yX3_error, .instanceMethod yX3_error, .selects RX3 yX3_error yX3_error, .code yX3_error cX3_error 2 (some .int), .fieldLink RX3 19 "WellControlModel" "errors" "[I"] ++ wsX30)
def wsX3_ofLayer : List Cond := .code yX3_ofLayer cX3_ofLayer 4 (some .int) :: ([.fieldLink RX3 7 "WellControlModel" "now" "[I", .methodLink RX3 93 yX3_isColumn, .static yX3_isColumn, .initialized RX3, .code yX3_isColumn cX3_isColumn 1 (some .boolean), .methodLink RX3 72 yX3_in, .static yX3_in, .code yX3_in cX3_in 3 (some .boolean), .methodLink RX3 76 yX3_error, .instanceMethod yX3_error, .selects RX3 yX3_error yX3_error, .code yX3_error cX3_error 2 (some .int), .fieldLink RX3 19 "WellControlModel" "errors" "[I", .methodLink RX3 33 yX3_volumeAt, .static yX3_volumeAt, .code yX3_volumeAt cX3_volumeAt 2 (some .int)] ++ wsX30)
def wsX3_layerVolume : List Cond := .code yX3_layerVolume cX3_layerVolume 3 (some .int) :: ([.methodLink RX3 105 yX3_ofLayer, .instanceMethod yX3_ofLayer, .selects RX3 yX3_ofLayer yX3_ofLayer, .initialized RX3, .code yX3_ofLayer cX3_ofLayer 4 (some .int), .fieldLink RX3 7 "WellControlModel" "now" "[I", .methodLink RX3 93 yX3_isColumn, .static yX3_isColumn, .code yX3_isColumn cX3_isColumn 1 (some .boolean), .methodLink RX3 72 yX3_in, .static yX3_in, .code yX3_in cX3_in 3 (some .boolean), .methodLink RX3 76 yX3_error, .instanceMethod yX3_error, .selects RX3 yX3_error yX3_error, .code yX3_error cX3_error 2 (some .int), .fieldLink RX3 19 "WellControlModel" "errors" "[I", .methodLink RX3 33 yX3_volumeAt, .static yX3_volumeAt, .code yX3_volumeAt cX3_volumeAt 2 (some .int)] ++ wsX30)
def wsX3_layerDensity : List Cond := .code yX3_layerDensity cX3_layerDensity 3 (some .int) :: ([.methodLink RX3 105 yX3_ofLayer, .instanceMethod yX3_ofLayer, .selects RX3 yX3_ofLayer yX3_ofLayer, .initialized RX3, .code yX3_ofLayer cX3_ofLayer 4 (some .int), .fieldLink RX3 7 "WellControlModel" "now" "[I", .methodLink RX3 93 yX3_isColumn, .static yX3_isColumn, .code yX3_isColumn cX3_isColumn 1 (some .boolean), .methodLink RX3 72 yX3_in, .static yX3_in, .code yX3_in cX3_in 3 (some .boolean), .methodLink RX3 76 yX3_error, .instanceMethod yX3_error, .selects RX3 yX3_error yX3_error, .code yX3_error cX3_error 2 (some .int), .fieldLink RX3 19 "WellControlModel" "errors" "[I", .methodLink RX3 33 yX3_volumeAt, .static yX3_volumeAt, .code yX3_volumeAt cX3_volumeAt 2 (some .int)] ++ wsX30)
def wsX3_gain : List Cond := .code yX3_gain cX3_gain 1 (some .int) :: ([.fieldLink RX3 7 "WellControlModel" "now" "[I"] ++ wsX30)
def wsX3_breaks : List Cond := .code yX3_breaks cX3_breaks 1 (some .int) :: ([.fieldLink RX3 7 "WellControlModel" "now" "[I"] ++ wsX30)
def wsX3_greatestShoePressure : List Cond := .code yX3_greatestShoePressure cX3_greatestShoePressure 1 (some .int) :: ([.fieldLink RX3 7 "WellControlModel" "now" "[I"] ++ wsX30)
def wsX3_undo : List Cond := .code yX3_undo cX3_undo 1 (some .int) :: ([.fieldLink RX3 25 "WellControlModel" "states" "I", .fieldLink RX3 16 "WellControlModel" "past" "[I", .fieldLink RX3 7 "WellControlModel" "now" "[I", .methodLink RX3 76 yX3_error, .instanceMethod yX3_error, .selects RX3 yX3_error yX3_error, .initialized RX3, .code yX3_error cX3_error 2 (some .int), .fieldLink RX3 19 "WellControlModel" "errors" "[I", .methodLink RX3 29 yX3_copy, .static yX3_copy, .code yX3_copy cX3_copy 7 none] ++ wsX30)
def wsX3_errorCount : List Cond := .code yX3_errorCount cX3_errorCount 2 (some .int) :: ([.fieldLink RX3 19 "WellControlModel" "errors" "[I", .methodLink RX3 72 yX3_in, .static yX3_in, .initialized RX3, .code yX3_in cX3_in 3 (some .boolean), .methodLink RX3 76 yX3_error, .instanceMethod yX3_error, .selects RX3 yX3_error yX3_error, .code yX3_error cX3_error 2 (some .int)] ++ wsX30)
def wsX3_mix : List Cond := .code yX3_mix cX3_mix 3 none :: ([.constantLong RX3 109 (31), .fieldLink RX3 111 "WellControlModel" "hash" "J"] ++ wsX30)
def wsX3_digest_r1 : List Cond := [Cond.constantLong RX3 115 (2693), Cond.fieldLink RX3 111 "WellControlModel" "hash" "J", Cond.fieldLink RX3 19 "WellControlModel" "errors" "[I", Cond.fieldLink RX3 7 "WellControlModel" "now" "[I", Cond.fieldLink RX3 25 "WellControlModel" "states" "I", Cond.methodLink RX3 117 yX3_mix, Cond.instanceMethod yX3_mix, Cond.selects RX3 yX3_mix yX3_mix, Cond.initialized RX3, Cond.code yX3_mix cX3_mix 3 none, Cond.constantLong RX3 109 (31), Cond.methodLink RX3 33 yX3_volumeAt, Cond.static yX3_volumeAt, Cond.code yX3_volumeAt cX3_volumeAt 2 (some .int), Cond.methodLink RX3 41 yX3_densityAt, Cond.static yX3_densityAt, Cond.code yX3_densityAt cX3_densityAt 2 (some .int), Cond.methodLink RX3 65 yX3_lacking, Cond.instanceMethod yX3_lacking, Cond.selects RX3 yX3_lacking yX3_lacking, Cond.code yX3_lacking cX3_lacking 3 (some .int), Cond.methodLink RX3 62 yX3_pressureOf, Cond.instanceMethod yX3_pressureOf, Cond.selects RX3 yX3_pressureOf yX3_pressureOf]
def wsX3_digest_r2 : List Cond := [Cond.code yX3_pressureOf cX3_pressureOf 8 (some .int), Cond.constantLong RX3 58 (981), Cond.constantLong RX3 60 (100000), Cond.methodLink RX3 68 yX3_atShoe, Cond.instanceMethod yX3_atShoe, Cond.selects RX3 yX3_atShoe yX3_atShoe, Cond.code yX3_atShoe cX3_atShoe 1 (some .int)]
def wsX3_digest : List Cond := .code yX3_digest cX3_digest 3 (some .long) :: ((wsX3_digest_r1 ++ wsX3_digest_r2) ++ wsX30)
def wsJ9_max_7cf53 : List Cond := .code yJ9_max_7cf53 cJ9_max_7cf53 2 (some .int) :: ([])
def wsJ9_max_f86c9 : List Cond := .code yJ9_max_f86c9 cJ9_max_f86c9 4 (some .long) :: ([])
def wsJ9_min_7cf53 : List Cond := .code yJ9_min_7cf53 cJ9_min_7cf53 2 (some .int) :: ([])
def wsL_law_r1 : List Cond := [Cond.classLink RL 7 RX2, Cond.instantiable RX2 5, Cond.initialized RX2, Cond.classLink RL 10 RX3, Cond.instantiable RX3 6, Cond.initialized RX3, Cond.methodLink RL 9 yX2_init, Cond.instanceMethod yX2_init, Cond.code yX2_init cX2_init 2 none, Cond.methodLink RX2 1 objectInit, Cond.instanceMethod objectInit, Cond.code objectInit ⟨#[0xb1]⟩ 1 none, Cond.classLink RX2 7 RX1, Cond.instantiable RX1 13, Cond.initialized RX1, Cond.fieldLink RX2 10 "WellControl" "well" "LWellControl$Well;", Cond.fieldLink RX2 16 "WellControl" "trial" "LWellControl$Well;", Cond.fieldLink RX2 19 "WellControl" "saved" "[LWellControl$Well;", Cond.fieldLink RX2 23 "WellControl" "savedCount" "I", Cond.arrayClass .int, Cond.fieldLink RX2 27 "WellControl" "errors" "[I", Cond.methodLink RX2 9 yX1_init, Cond.instanceMethod yX1_init, Cond.code yX1_init cX1_init 1 none]
def wsL_law_r2 : List Cond := [Cond.methodLink RX1 3 objectInit, Cond.fieldLink RX1 9 "WellControl$Well" "depth" "I", Cond.fieldLink RX1 15 "WellControl$Well" "pipeCapacity" "I", Cond.fieldLink RX1 18 "WellControl$Well" "annulusCapacity" "I", Cond.fieldLink RX1 21 "WellControl$Well" "shoe" "I", Cond.fieldLink RX1 24 "WellControl$Well" "mud" "I", Cond.fieldLink RX1 27 "WellControl$Well" "formation" "I", Cond.fieldLink RX1 30 "WellControl$Well" "slowPump" "I", Cond.fieldLink RX1 33 "WellControl$Well" "fracture" "I", Cond.classLink RX1 36 RX0, Cond.instantiable RX0 6, Cond.initialized RX0, Cond.fieldLink RX1 41 "WellControl$Well" "pipe" "LWellControl$Column;", Cond.fieldLink RX1 45 "WellControl$Well" "annulus" "LWellControl$Column;", Cond.methodLink RX1 38 yX0_init, Cond.instanceMethod yX0_init, Cond.code yX0_init cX0_init 2 none, Cond.methodLink RX0 3 objectInit, Cond.fieldLink RX0 9 "WellControl$Column" "volumes" "[I", Cond.fieldLink RX0 15 "WellControl$Column" "densities" "[I", Cond.fieldLink RX0 18 "WellControl$Column" "filledFromTop" "Z", Cond.methodLink RX1 48 yX1_startAnew, Cond.instanceMethod yX1_startAnew, Cond.selects RX1 yX1_startAnew yX1_startAnew]
def wsL_law_r3 : List Cond := [Cond.code yX1_startAnew cX1_startAnew 1 none, Cond.fieldLink RX1 65 "WellControl$Well" "gained" "I", Cond.fieldLink RX1 68 "WellControl$Well" "timesBroken" "I", Cond.fieldLink RX1 71 "WellControl$Well" "greatestAtShoe" "I", Cond.methodLink RX1 51 yX0_clear, Cond.instanceMethod yX0_clear, Cond.selects RX0 yX0_clear yX0_clear, Cond.code yX0_clear cX0_clear 1 none, Cond.fieldLink RX0 22 "WellControl$Column" "oldest" "I", Cond.fieldLink RX0 26 "WellControl$Column" "count" "I", Cond.fieldLink RX0 29 "WellControl$Column" "load" "J", Cond.methodLink RX1 54 yX1_pipeVolume, Cond.instanceMethod yX1_pipeVolume, Cond.selects RX1 yX1_pipeVolume yX1_pipeVolume, Cond.code yX1_pipeVolume cX1_pipeVolume 1 (some .int), Cond.methodLink RX1 58 yX0_enter, Cond.instanceMethod yX0_enter, Cond.selects RX0 yX0_enter yX0_enter, Cond.code yX0_enter cX0_enter 4 none, Cond.methodLink RX0 53 yX0_joinsNewest, Cond.instanceMethod yX0_joinsNewest, Cond.selects RX0 yX0_joinsNewest yX0_joinsNewest, Cond.code yX0_joinsNewest cX0_joinsNewest 2 (some .boolean), Cond.methodLink RX0 36 yX0_placeOfAge]
def wsL_law_r4 : List Cond := [Cond.instanceMethod yX0_placeOfAge, Cond.selects RX0 yX0_placeOfAge yX0_placeOfAge, Cond.code yX0_placeOfAge cX0_placeOfAge 2 (some .int), Cond.methodLink RX0 44 yJ9_floorMod_7cf53, Cond.static yJ9_floorMod_7cf53, Cond.initialized RJ9, Cond.code yJ9_floorMod_7cf53 cJ9_floorMod_7cf53 3 (some .int), Cond.methodLink RX1 62 yX1_annulusVolume, Cond.instanceMethod yX1_annulusVolume, Cond.selects RX1 yX1_annulusVolume yX1_annulusVolume, Cond.code yX1_annulusVolume cX1_annulusVolume 1 (some .int), Cond.methodLink RL 12 yX3_init, Cond.instanceMethod yX3_init, Cond.code yX3_init cX3_init 1 none, Cond.methodLink RX3 1 objectInit, Cond.fieldLink RX3 7 "WellControlModel" "now" "[I", Cond.fieldLink RX3 13 "WellControlModel" "aside" "[I", Cond.fieldLink RX3 16 "WellControlModel" "past" "[I", Cond.fieldLink RX3 19 "WellControlModel" "errors" "[I", Cond.methodLink RX3 22 yX3_fill, Cond.instanceMethod yX3_fill, Cond.selects RX3 yX3_fill yX3_fill, Cond.code yX3_fill cX3_fill 2 none, Cond.methodLink RX3 33 yX3_volumeAt]
def wsL_law_r5 : List Cond := [Cond.static yX3_volumeAt, Cond.code yX3_volumeAt cX3_volumeAt 2 (some .int), Cond.methodLink RX3 37 yX3_volumeOf, Cond.instanceMethod yX3_volumeOf, Cond.selects RX3 yX3_volumeOf yX3_volumeOf, Cond.code yX3_volumeOf cX3_volumeOf 2 (some .int), Cond.methodLink RX3 41 yX3_densityAt, Cond.static yX3_densityAt, Cond.code yX3_densityAt cX3_densityAt 2 (some .int), Cond.methodLink RL 13 yX2_setGeometry, Cond.instanceMethod yX2_setGeometry, Cond.selects RX2 yX2_setGeometry yX2_setGeometry, Cond.code yX2_setGeometry cX2_setGeometry 6 (some .int), Cond.fieldLink RX2 42 "WellControl$Well" "depth" "I", Cond.fieldLink RX2 45 "WellControl$Well" "pipeCapacity" "I", Cond.fieldLink RX2 48 "WellControl$Well" "annulusCapacity" "I", Cond.fieldLink RX2 51 "WellControl$Well" "shoe" "I", Cond.methodLink RX2 31 yX2_within, Cond.static yX2_within, Cond.code yX2_within cX2_within 3 (some .boolean), Cond.methodLink RX2 35 yX2_refuse, Cond.instanceMethod yX2_refuse, Cond.selects RX2 yX2_refuse yX2_refuse, Cond.code yX2_refuse cX2_refuse 2 (some .int)]
def wsL_law_r6 : List Cond := [Cond.methodLink RX2 39 yX2_save, Cond.instanceMethod yX2_save, Cond.selects RX2 yX2_save yX2_save, Cond.code yX2_save cX2_save 1 none, Cond.methodLink RX2 183 yX2_dropOldestSaved, Cond.instanceMethod yX2_dropOldestSaved, Cond.selects RX2 yX2_dropOldestSaved yX2_dropOldestSaved, Cond.code yX2_dropOldestSaved cX2_dropOldestSaved 3 none, Cond.methodLink RX2 113 yX1_copyFrom, Cond.instanceMethod yX1_copyFrom, Cond.selects RX1 yX1_copyFrom yX1_copyFrom, Cond.code yX1_copyFrom cX1_copyFrom 2 none, Cond.methodLink RX1 74 yX0_copyFrom, Cond.instanceMethod yX0_copyFrom, Cond.selects RX0 yX0_copyFrom yX0_copyFrom, Cond.code yX0_copyFrom cX0_copyFrom 4 none, Cond.methodLink RX0 33 yX0_clear, Cond.methodLink RX0 40 yX0_enter, Cond.methodLink RX2 54 yX1_startAnew, Cond.methodLink RX2 57 yX1_pipeVolume, Cond.methodLink RX2 61 yX1_annulusVolume, Cond.methodLink RL 17 yX3_setGeometry, Cond.instanceMethod yX3_setGeometry, Cond.selects RX3 yX3_setGeometry yX3_setGeometry]
def wsL_law_r7 : List Cond := [Cond.code yX3_setGeometry cX3_setGeometry 5 (some .int), Cond.methodLink RX3 72 yX3_in, Cond.static yX3_in, Cond.code yX3_in cX3_in 3 (some .boolean), Cond.methodLink RX3 76 yX3_error, Cond.instanceMethod yX3_error, Cond.selects RX3 yX3_error yX3_error, Cond.code yX3_error cX3_error 2 (some .int), Cond.methodLink RX3 79 yX3_save, Cond.instanceMethod yX3_save, Cond.selects RX3 yX3_save yX3_save, Cond.code yX3_save cX3_save 2 none, Cond.fieldLink RX3 25 "WellControlModel" "states" "I", Cond.methodLink RX3 29 yX3_copy, Cond.static yX3_copy, Cond.code yX3_copy cX3_copy 7 none, Cond.methodLink RL 18 yX2_setMud, Cond.instanceMethod yX2_setMud, Cond.selects RX2 yX2_setMud yX2_setMud, Cond.code yX2_setMud cX2_setMud 3 (some .int), Cond.fieldLink RX2 64 "WellControl$Well" "mud" "I", Cond.methodLink RL 22 yX3_setMud, Cond.instanceMethod yX3_setMud, Cond.selects RX3 yX3_setMud yX3_setMud]
def wsL_law_r8 : List Cond := [Cond.code yX3_setMud cX3_setMud 2 (some .int), Cond.methodLink RX3 82 yX3_set, Cond.instanceMethod yX3_set, Cond.selects RX3 yX3_set yX3_set, Cond.code yX3_set cX3_set 6 (some .int), Cond.methodLink RL 23 yX2_setFormation, Cond.instanceMethod yX2_setFormation, Cond.selects RX2 yX2_setFormation yX2_setFormation, Cond.code yX2_setFormation cX2_setFormation 3 (some .int), Cond.constant RX2 67 (60000), Cond.fieldLink RX2 68 "WellControl$Well" "formation" "I", Cond.methodLink RL 26 yX3_setFormation, Cond.instanceMethod yX3_setFormation, Cond.selects RX3 yX3_setFormation yX3_setFormation, Cond.code yX3_setFormation cX3_setFormation 2 (some .int), Cond.constant RX3 86 (60000), Cond.methodLink RL 27 yX2_setSlowPump, Cond.instanceMethod yX2_setSlowPump, Cond.selects RX2 yX2_setSlowPump yX2_setSlowPump, Cond.code yX2_setSlowPump cX2_setSlowPump 3 (some .int), Cond.fieldLink RX2 71 "WellControl$Well" "slowPump" "I", Cond.methodLink RL 30 yX3_setSlowPump, Cond.instanceMethod yX3_setSlowPump, Cond.selects RX3 yX3_setSlowPump yX3_setSlowPump]
def wsL_law_r9 : List Cond := [Cond.code yX3_setSlowPump cX3_setSlowPump 2 (some .int), Cond.methodLink RL 31 yX2_setFracture, Cond.instanceMethod yX2_setFracture, Cond.selects RX2 yX2_setFracture yX2_setFracture, Cond.code yX2_setFracture cX2_setFracture 3 (some .int), Cond.fieldLink RX2 74 "WellControl$Well" "fracture" "I", Cond.methodLink RL 34 yX3_setFracture, Cond.instanceMethod yX3_setFracture, Cond.selects RX3 yX3_setFracture yX3_setFracture, Cond.code yX3_setFracture cX3_setFracture 2 (some .int), Cond.methodLink RL 35 yX2_pump, Cond.instanceMethod yX2_pump, Cond.selects RX2 yX2_pump yX2_pump, Cond.code yX2_pump cX2_pump 2 (some .int), Cond.methodLink RX2 77 yX1_canCirculate, Cond.instanceMethod yX1_canCirculate, Cond.selects RX1 yX1_canCirculate yX1_canCirculate, Cond.code yX1_canCirculate cX1_canCirculate 2 (some .boolean), Cond.methodLink RX2 81 yX1_circulate, Cond.instanceMethod yX1_circulate, Cond.selects RX1 yX1_circulate yX1_circulate, Cond.code yX1_circulate cX1_circulate 3 none, Cond.methodLink RX1 78 yX0_release, Cond.instanceMethod yX0_release]
def wsL_law_r10 : List Cond := [Cond.selects RX0 yX0_release yX0_release, Cond.code yX0_release cX0_release 4 none, Cond.methodLink RX0 57 yX0_releaseOldest, Cond.instanceMethod yX0_releaseOldest, Cond.selects RX0 yX0_releaseOldest yX0_releaseOldest, Cond.code yX0_releaseOldest cX0_releaseOldest 4 (some .int), Cond.methodLink RX0 60 Lib.Math.min.name, Cond.static Lib.Math.min.name, Cond.initialized "java/lang/Math", Cond.code Lib.Math.min.name Lib.Math.min.code 2 (some .int), Cond.methodLink RX1 82 yX0_releaseInto, Cond.instanceMethod yX0_releaseInto, Cond.selects RX0 yX0_releaseInto yX0_releaseInto, Cond.code yX0_releaseInto cX0_releaseInto 7 none, Cond.methodLink RX2 85 yX1_checkShoe, Cond.instanceMethod yX1_checkShoe, Cond.selects RX1 yX1_checkShoe yX1_checkShoe, Cond.code yX1_checkShoe cX1_checkShoe 2 none, Cond.methodLink RX1 99 Lib.Math.max.name, Cond.static Lib.Math.max.name, Cond.code Lib.Math.max.name Lib.Math.max.code 2 (some .int), Cond.methodLink RX1 96 yX1_pressureAtShoe, Cond.instanceMethod yX1_pressureAtShoe, Cond.selects RX1 yX1_pressureAtShoe yX1_pressureAtShoe]
def wsL_law_r11 : List Cond := [Cond.code yX1_pressureAtShoe cX1_pressureAtShoe 1 (some .int), Cond.methodLink RX1 134 yX1_pressureAtCasing, Cond.instanceMethod yX1_pressureAtCasing, Cond.selects RX1 yX1_pressureAtCasing yX1_pressureAtCasing, Cond.code yX1_pressureAtCasing cX1_pressureAtCasing 1 (some .int), Cond.methodLink RX1 128 yX1_pressureOfWhole, Cond.instanceMethod yX1_pressureOfWhole, Cond.selects RX1 yX1_pressureOfWhole yX1_pressureOfWhole, Cond.code yX1_pressureOfWhole cX1_pressureOfWhole 2 (some .int), Cond.fieldLink RX1 108 "WellControl$Column" "load" "J", Cond.methodLink RX1 104 yX1_column, Cond.instanceMethod yX1_column, Cond.selects RX1 yX1_column yX1_column, Cond.code yX1_column cX1_column 2 (some (.object "WellControl$Column")), Cond.methodLink RX1 112 yX1_capacity, Cond.instanceMethod yX1_capacity, Cond.selects RX1 yX1_capacity yX1_capacity, Cond.code yX1_capacity cX1_capacity 2 (some .int), Cond.methodLink RX1 116 yX1_pressureOf, Cond.static yX1_pressureOf, Cond.code yX1_pressureOf cX1_pressureOf 3 (some .int), Cond.constantLong RX1 124 (981), Cond.constantLong RX1 126 (100000), Cond.methodLink RX1 137 yX1_pressureOfPart]
def wsL_law_r12 : List Cond := [Cond.instanceMethod yX1_pressureOfPart, Cond.selects RX1 yX1_pressureOfPart yX1_pressureOfPart, Cond.code yX1_pressureOfPart cX1_pressureOfPart 4 (some .int), Cond.methodLink RX1 120 yX0_loadAbove, Cond.instanceMethod yX0_loadAbove, Cond.selects RX0 yX0_loadAbove yX0_loadAbove, Cond.code yX0_loadAbove cX0_loadAbove 8 (some .long), Cond.methodLink RX0 50 yX0_placeOfIndex, Cond.instanceMethod yX0_placeOfIndex, Cond.selects RX0 yX0_placeOfIndex yX0_placeOfIndex, Cond.code yX0_placeOfIndex cX0_placeOfIndex 3 (some .int), Cond.methodLink RX2 88 yX1_pressureAtCasing, Cond.methodLink RL 38 yX3_pump, Cond.instanceMethod yX3_pump, Cond.selects RX3 yX3_pump yX3_pump, Cond.code yX3_pump cX3_pump 2 (some .int), Cond.methodLink RX3 87 yX3_pumpMud, Cond.instanceMethod yX3_pumpMud, Cond.selects RX3 yX3_pumpMud yX3_pumpMud, Cond.code yX3_pumpMud cX3_pumpMud 3 none, Cond.methodLink RX3 48 yX3_putOnTop, Cond.instanceMethod yX3_putOnTop, Cond.selects RX3 yX3_putOnTop yX3_putOnTop, Cond.code yX3_putOnTop cX3_putOnTop 4 none]
def wsL_law_r13 : List Cond := [Cond.methodLink RX3 51 yX3_passOver, Cond.instanceMethod yX3_passOver, Cond.selects RX3 yX3_passOver yX3_passOver, Cond.code yX3_passOver cX3_passOver 5 none, Cond.methodLink RX3 44 yX3_enter, Cond.instanceMethod yX3_enter, Cond.selects RX3 yX3_enter yX3_enter, Cond.code yX3_enter cX3_enter 4 none, Cond.methodLink RX3 55 yX3_leave, Cond.instanceMethod yX3_leave, Cond.selects RX3 yX3_leave yX3_leave, Cond.code yX3_leave cX3_leave 5 none, Cond.methodLink RX3 90 yX3_check, Cond.instanceMethod yX3_check, Cond.selects RX3 yX3_check yX3_check, Cond.code yX3_check cX3_check 2 none, Cond.methodLink RX3 68 yX3_atShoe, Cond.instanceMethod yX3_atShoe, Cond.selects RX3 yX3_atShoe yX3_atShoe, Cond.code yX3_atShoe cX3_atShoe 1 (some .int), Cond.methodLink RX3 65 yX3_lacking, Cond.instanceMethod yX3_lacking, Cond.selects RX3 yX3_lacking yX3_lacking, Cond.code yX3_lacking cX3_lacking 3 (some .int)]
def wsL_law_r14 : List Cond := [Cond.methodLink RX3 62 yX3_pressureOf, Cond.instanceMethod yX3_pressureOf, Cond.selects RX3 yX3_pressureOf yX3_pressureOf, Cond.code yX3_pressureOf cX3_pressureOf 8 (some .int), Cond.constantLong RX3 58 (981), Cond.constantLong RX3 60 (100000), Cond.methodLink RL 39 yX2_influx, Cond.instanceMethod yX2_influx, Cond.selects RX2 yX2_influx yX2_influx, Cond.code yX2_influx cX2_influx 3 (some .int), Cond.methodLink RX2 91 yX1_letIn, Cond.instanceMethod yX1_letIn, Cond.selects RX1 yX1_letIn yX1_letIn, Cond.code yX1_letIn cX1_letIn 3 none, Cond.methodLink RL 43 yX3_influx, Cond.instanceMethod yX3_influx, Cond.selects RX3 yX3_influx yX3_influx, Cond.code yX3_influx cX3_influx 3 (some .int), Cond.methodLink RL 44 yX2_hydrostatic, Cond.instanceMethod yX2_hydrostatic, Cond.selects RX2 yX2_hydrostatic yX2_hydrostatic, Cond.code yX2_hydrostatic cX2_hydrostatic 2 (some .int), Cond.methodLink RX2 94 yX1_pressureOfWhole, Cond.methodLink RL 47 yX3_hydrostatic]
def wsL_law_r15 : List Cond := [Cond.instanceMethod yX3_hydrostatic, Cond.selects RX3 yX3_hydrostatic yX3_hydrostatic, Cond.code yX3_hydrostatic cX3_hydrostatic 2 (some .int), Cond.methodLink RX3 93 yX3_isColumn, Cond.static yX3_isColumn, Cond.code yX3_isColumn cX3_isColumn 1 (some .boolean), Cond.methodLink RL 48 yX2_hydrostaticAbove, Cond.instanceMethod yX2_hydrostaticAbove, Cond.selects RX2 yX2_hydrostaticAbove yX2_hydrostaticAbove, Cond.code yX2_hydrostaticAbove cX2_hydrostaticAbove 3 (some .int), Cond.methodLink RX2 97 yX1_pressureOfPart, Cond.methodLink RL 51 yX3_hydrostaticAbove, Cond.instanceMethod yX3_hydrostaticAbove, Cond.selects RX3 yX3_hydrostaticAbove yX3_hydrostaticAbove, Cond.code yX3_hydrostaticAbove cX3_hydrostaticAbove 3 (some .int), Cond.methodLink RL 52 yX2_drillPipePressure, Cond.instanceMethod yX2_drillPipePressure, Cond.selects RX2 yX2_drillPipePressure yX2_drillPipePressure, Cond.code yX2_drillPipePressure cX2_drillPipePressure 1 (some .int), Cond.methodLink RX2 101 yX1_pressureAtPipe, Cond.instanceMethod yX1_pressureAtPipe, Cond.selects RX1 yX1_pressureAtPipe yX1_pressureAtPipe, Cond.code yX1_pressureAtPipe cX1_pressureAtPipe 1 (some .int), Cond.methodLink RL 56 yX3_drillPipePressure]
def wsL_law_r16 : List Cond := [Cond.instanceMethod yX3_drillPipePressure, Cond.selects RX3 yX3_drillPipePressure yX3_drillPipePressure, Cond.code yX3_drillPipePressure cX3_drillPipePressure 1 (some .int), Cond.methodLink RL 57 yX2_casingPressure, Cond.instanceMethod yX2_casingPressure, Cond.selects RX2 yX2_casingPressure yX2_casingPressure, Cond.code yX2_casingPressure cX2_casingPressure 1 (some .int), Cond.methodLink RL 60 yX3_casingPressure, Cond.instanceMethod yX3_casingPressure, Cond.selects RX3 yX3_casingPressure yX3_casingPressure, Cond.code yX3_casingPressure cX3_casingPressure 1 (some .int), Cond.methodLink RL 61 yX2_standpipePressure, Cond.instanceMethod yX2_standpipePressure, Cond.selects RX2 yX2_standpipePressure yX2_standpipePressure, Cond.code yX2_standpipePressure cX2_standpipePressure 1 (some .int), Cond.methodLink RX2 104 yX1_pressureAtStandpipe, Cond.instanceMethod yX1_pressureAtStandpipe, Cond.selects RX1 yX1_pressureAtStandpipe yX1_pressureAtStandpipe, Cond.code yX1_pressureAtStandpipe cX1_pressureAtStandpipe 1 (some .int), Cond.methodLink RX1 131 yX1_pressureAtPipe, Cond.methodLink RL 64 yX3_standpipePressure, Cond.instanceMethod yX3_standpipePressure, Cond.selects RX3 yX3_standpipePressure yX3_standpipePressure, Cond.code yX3_standpipePressure cX3_standpipePressure 1 (some .int)]
def wsL_law_r17 : List Cond := [Cond.methodLink RL 65 yX2_shoePressure, Cond.instanceMethod yX2_shoePressure, Cond.selects RX2 yX2_shoePressure yX2_shoePressure, Cond.code yX2_shoePressure cX2_shoePressure 1 (some .int), Cond.methodLink RX2 107 yX1_pressureAtShoe, Cond.methodLink RL 68 yX3_shoePressure, Cond.instanceMethod yX3_shoePressure, Cond.selects RX3 yX3_shoePressure yX3_shoePressure, Cond.code yX3_shoePressure cX3_shoePressure 1 (some .int), Cond.methodLink RL 69 yX2_allowedCasingPressure, Cond.instanceMethod yX2_allowedCasingPressure, Cond.selects RX2 yX2_allowedCasingPressure yX2_allowedCasingPressure, Cond.code yX2_allowedCasingPressure cX2_allowedCasingPressure 1 (some .int), Cond.methodLink RL 72 yX3_allowedCasingPressure, Cond.instanceMethod yX3_allowedCasingPressure, Cond.selects RX3 yX3_allowedCasingPressure yX3_allowedCasingPressure, Cond.code yX3_allowedCasingPressure cX3_allowedCasingPressure 1 (some .int), Cond.methodLink RL 73 yX2_killDensity, Cond.instanceMethod yX2_killDensity, Cond.selects RX2 yX2_killDensity yX2_killDensity, Cond.code yX2_killDensity cX2_killDensity 2 (some .int), Cond.methodLink RX2 110 yX1_densityToKill, Cond.instanceMethod yX1_densityToKill, Cond.selects RX1 yX1_densityToKill yX1_densityToKill]
def wsL_law_r18 : List Cond := [Cond.code yX1_densityToKill cX1_densityToKill 5 (some .int), Cond.constantLong RX1 140 (2500), Cond.methodLink RX1 142 Lib.MathLoose.max_long.x, Cond.static Lib.MathLoose.max_long.x, Cond.code Lib.MathLoose.max_long.x Lib.MathLoose.max_long.code 4 (some .long), Cond.methodLink RL 76 yX3_killDensity, Cond.instanceMethod yX3_killDensity, Cond.selects RX3 yX3_killDensity yX3_killDensity, Cond.code yX3_killDensity cX3_killDensity 2 (some .int), Cond.methodLink RX3 97 yX3_leastDensity, Cond.instanceMethod yX3_leastDensity, Cond.selects RX3 yX3_leastDensity yX3_leastDensity, Cond.code yX3_leastDensity cX3_leastDensity 4 (some .int), Cond.methodLink RL 77 yX2_killShoePressure, Cond.instanceMethod yX2_killShoePressure, Cond.selects RX2 yX2_killShoePressure yX2_killShoePressure, Cond.code yX2_killShoePressure cX2_killShoePressure 4 (some .int), Cond.fieldLink RX2 117 "WellControl$Well" "greatestAtShoe" "I", Cond.methodLink RX2 120 yX1_circulateInSteps, Cond.instanceMethod yX1_circulateInSteps, Cond.selects RX1 yX1_circulateInSteps yX1_circulateInSteps, Cond.code yX1_circulateInSteps cX1_circulateInSteps 6 none, Cond.static yX2_portionsFor, Cond.code yX2_portionsFor cX2_portionsFor 3 (some .int)]
def wsL_law_r19 : List Cond := [Cond.methodLink RX2 124 Lib.Math.max.name, Cond.methodLink RX1 90 yX1_circulate, Cond.methodLink RX1 93 yX1_checkShoe, Cond.methodLink RL 80 yX3_killShoePressure, Cond.instanceMethod yX3_killShoePressure, Cond.selects RX3 yX3_killShoePressure yX3_killShoePressure, Cond.code yX3_killShoePressure cX3_killShoePressure 5 (some .int), Cond.methodLink RX3 100 yX3_pumpAll, Cond.instanceMethod yX3_pumpAll, Cond.selects RX3 yX3_pumpAll yX3_pumpAll, Cond.code yX3_pumpAll cX3_pumpAll 8 (some .int), Cond.methodLink RL 81 yX2_schedule, Cond.instanceMethod yX2_schedule, Cond.selects RX2 yX2_schedule yX2_schedule, Cond.code yX2_schedule cX2_schedule 7 (some .int), Cond.constantLong RX2 129 (100), Cond.methodLink RL 84 yX3_schedule, Cond.instanceMethod yX3_schedule, Cond.selects RX3 yX3_schedule yX3_schedule, Cond.code yX3_schedule cX3_schedule 7 (some .int), Cond.constantLong RX3 103 (100), Cond.methodLink RL 85 yX2_strokesToBit, Cond.instanceMethod yX2_strokesToBit, Cond.selects RX2 yX2_strokesToBit yX2_strokesToBit]
def wsL_law_r20 : List Cond := [Cond.code yX2_strokesToBit cX2_strokesToBit 2 (some .int), Cond.methodLink RX2 131 yX2_portionsFor, Cond.methodLink RL 88 yX3_strokesToBit, Cond.instanceMethod yX3_strokesToBit, Cond.selects RX3 yX3_strokesToBit yX3_strokesToBit, Cond.code yX3_strokesToBit cX3_strokesToBit 2 (some .int), Cond.methodLink RL 89 yX2_layers, Cond.instanceMethod yX2_layers, Cond.selects RX2 yX2_layers yX2_layers, Cond.code yX2_layers cX2_layers 2 (some .int), Cond.fieldLink RX2 138 "WellControl$Column" "count" "I", Cond.methodLink RX2 134 yX1_column, Cond.methodLink RL 92 yX3_layers, Cond.instanceMethod yX3_layers, Cond.selects RX3 yX3_layers yX3_layers, Cond.code yX3_layers cX3_layers 2 (some .int), Cond.methodLink RL 93 yX2_layerVolume, Cond.instanceMethod yX2_layerVolume, Cond.selects RX2 yX2_layerVolume yX2_layerVolume, Cond.code yX2_layerVolume cX2_layerVolume 4 (some .int), Cond.methodLink RX2 143 yX2_layerError, Cond.instanceMethod yX2_layerError, Cond.selects RX2 yX2_layerError yX2_layerError, Cond.code yX2_layerError cX2_layerError 3 (some .int)]
def wsL_law_r21 : List Cond := [Cond.methodLink RX2 146 yX0_volumeOf, Cond.instanceMethod yX0_volumeOf, Cond.selects RX0 yX0_volumeOf yX0_volumeOf, Cond.code yX0_volumeOf cX0_volumeOf 2 (some .int), Cond.methodLink RL 96 yX3_layerVolume, Cond.instanceMethod yX3_layerVolume, Cond.selects RX3 yX3_layerVolume yX3_layerVolume, Cond.code yX3_layerVolume cX3_layerVolume 3 (some .int), Cond.methodLink RX3 105 yX3_ofLayer, Cond.instanceMethod yX3_ofLayer, Cond.selects RX3 yX3_ofLayer yX3_ofLayer, Cond.code yX3_ofLayer cX3_ofLayer 4 (some .int), Cond.methodLink RL 97 yX2_layerDensity, Cond.instanceMethod yX2_layerDensity, Cond.selects RX2 yX2_layerDensity yX2_layerDensity, Cond.code yX2_layerDensity cX2_layerDensity 4 (some .int), Cond.methodLink RX2 149 yX0_densityOf, Cond.instanceMethod yX0_densityOf, Cond.selects RX0 yX0_densityOf yX0_densityOf, Cond.code yX0_densityOf cX0_densityOf 2 (some .int), Cond.methodLink RL 100 yX3_layerDensity, Cond.instanceMethod yX3_layerDensity, Cond.selects RX3 yX3_layerDensity yX3_layerDensity, Cond.code yX3_layerDensity cX3_layerDensity 3 (some .int)]
def wsL_law_r22 : List Cond := [Cond.methodLink RL 101 yX2_gain, Cond.instanceMethod yX2_gain, Cond.selects RX2 yX2_gain yX2_gain, Cond.code yX2_gain cX2_gain 1 (some .int), Cond.fieldLink RX2 152 "WellControl$Well" "gained" "I", Cond.methodLink RL 104 yX3_gain, Cond.instanceMethod yX3_gain, Cond.selects RX3 yX3_gain yX3_gain, Cond.code yX3_gain cX3_gain 1 (some .int), Cond.methodLink RL 105 yX2_breaks, Cond.instanceMethod yX2_breaks, Cond.selects RX2 yX2_breaks yX2_breaks, Cond.code yX2_breaks cX2_breaks 1 (some .int), Cond.fieldLink RX2 155 "WellControl$Well" "timesBroken" "I", Cond.methodLink RL 108 yX3_breaks, Cond.instanceMethod yX3_breaks, Cond.selects RX3 yX3_breaks yX3_breaks, Cond.code yX3_breaks cX3_breaks 1 (some .int), Cond.methodLink RL 109 yX2_greatestShoePressure, Cond.instanceMethod yX2_greatestShoePressure, Cond.selects RX2 yX2_greatestShoePressure yX2_greatestShoePressure, Cond.code yX2_greatestShoePressure cX2_greatestShoePressure 1 (some .int), Cond.methodLink RL 112 yX3_greatestShoePressure, Cond.instanceMethod yX3_greatestShoePressure]
def wsL_law_r23 : List Cond := [Cond.selects RX3 yX3_greatestShoePressure yX3_greatestShoePressure, Cond.code yX3_greatestShoePressure cX3_greatestShoePressure 1 (some .int), Cond.methodLink RL 113 yX2_undo, Cond.instanceMethod yX2_undo, Cond.selects RX2 yX2_undo yX2_undo, Cond.code yX2_undo cX2_undo 2 (some .int), Cond.methodLink RL 116 yX3_undo, Cond.instanceMethod yX3_undo, Cond.selects RX3 yX3_undo yX3_undo, Cond.code yX3_undo cX3_undo 1 (some .int), Cond.methodLink RL 117 yX2_errorCount, Cond.instanceMethod yX2_errorCount, Cond.selects RX2 yX2_errorCount yX2_errorCount, Cond.code yX2_errorCount cX2_errorCount 2 (some .int), Cond.methodLink RL 120 yX3_errorCount, Cond.instanceMethod yX3_errorCount, Cond.selects RX3 yX3_errorCount yX3_errorCount, Cond.code yX3_errorCount cX3_errorCount 2 (some .int), Cond.methodLink RL 121 yX2_digest, Cond.instanceMethod yX2_digest, Cond.selects RX2 yX2_digest yX2_digest, Cond.code yX2_digest cX2_digest 4 (some .long), Cond.constantLong RX2 158 (2693), Cond.fieldLink RX2 168 "WellControl$Well" "pipe" "LWellControl$Column;"]
def wsL_law_r24 : List Cond := [Cond.fieldLink RX2 175 "WellControl$Well" "annulus" "LWellControl$Column;", Cond.methodLink RX2 160 yX2_mixed, Cond.static yX2_mixed, Cond.code yX2_mixed cX2_mixed 4 (some .long), Cond.constantLong RX2 181 (31), Cond.methodLink RX2 164 yX1_mixedSettings, Cond.instanceMethod yX1_mixedSettings, Cond.selects RX1 yX1_mixedSettings yX1_mixedSettings, Cond.code yX1_mixedSettings cX1_mixedSettings 3 (some .long), Cond.methodLink RX2 172 yX0_mixedLayers, Cond.instanceMethod yX0_mixedLayers, Cond.selects RX0 yX0_mixedLayers yX0_mixedLayers, Cond.code yX0_mixedLayers cX0_mixedLayers 5 (some .long), Cond.methodLink RX2 178 yX1_mixedReadings, Cond.instanceMethod yX1_mixedReadings, Cond.selects RX1 yX1_mixedReadings yX1_mixedReadings, Cond.code yX1_mixedReadings cX1_mixedReadings 3 (some .long), Cond.methodLink RX1 148 yX1_pressureAtStandpipe, Cond.methodLink RL 125 yX3_digest, Cond.instanceMethod yX3_digest, Cond.selects RX3 yX3_digest yX3_digest, Cond.code yX3_digest cX3_digest 3 (some .long), Cond.constantLong RX3 115 (2693), Cond.fieldLink RX3 111 "WellControlModel" "hash" "J"]
def wsL_law_r25 : List Cond := [Cond.methodLink RX3 117 yX3_mix, Cond.instanceMethod yX3_mix, Cond.selects RX3 yX3_mix yX3_mix, Cond.code yX3_mix cX3_mix 3 none, Cond.constantLong RX3 109 (31)]
def wsL_law : List Cond := (wsL_law_r1 ++ (wsL_law_r2 ++ (wsL_law_r3 ++ (wsL_law_r4 ++ (wsL_law_r5 ++ (wsL_law_r6 ++ (wsL_law_r7 ++ (wsL_law_r8 ++ (wsL_law_r9 ++ (wsL_law_r10 ++ (wsL_law_r11 ++ (wsL_law_r12 ++ (wsL_law_r13 ++ (wsL_law_r14 ++ (wsL_law_r15 ++ (wsL_law_r16 ++ (wsL_law_r17 ++ (wsL_law_r18 ++ (wsL_law_r19 ++ (wsL_law_r20 ++ (wsL_law_r21 ++ (wsL_law_r22 ++ (wsL_law_r23 ++ (wsL_law_r24 ++ wsL_law_r25)))))))))))))))))))))))) ++ wsX20 ++ wsX30 ++ wsX10 ++ wsX00 ++ ([] : List Cond)
abbrev vwCl : List vw_C := [(RX0, TX0, 6), (RX1, TX1, 13), (RX2, TX2, 5), (RX3, TX3, 6)]
end
section
theorem in_places {big ws : List Cond} (ps : List Nat) (h : ps.map (fun i => big[i]?) = ws.map some) : ∀ w ∈ ws, w ∈ big := by
  intro w hw
  have h1 : some w ∈ ps.map (fun i => big[i]?) := by rw [h]; exact List.mem_map.mpr ⟨w, hw, rfl⟩
  obtain ⟨i, -, hi⟩ := List.mem_map.mp h1
  exact List.mem_of_getElem? hi
theorem in_app {big a b : List Cond} (ha : ∀ w ∈ a, w ∈ big) (hb : ∀ w ∈ b, w ∈ big) : ∀ w ∈ a ++ b, w ∈ big := fun w h => (List.mem_append.mp h).elim (ha w) (hb w)
set_option maxRecDepth 100000 in
theorem wsL_law_r1_in : ∀ w ∈ wsL_law_r1, w ∈ lw_tbl := in_places [30, 31, 25, 447, 448, 29, 32, 33, 34, 35, 36, 37, 38, 39, 26, 157, 158, 159, 160, 71, 161, 40, 41, 42] rfl
set_option maxRecDepth 100000 in
theorem wsL_law_r2_in : ∀ w ∈ wsL_law_r2, w ∈ lw_tbl := in_places [43, 103, 105, 107, 109, 111, 113, 115, 117, 44, 45, 27, 125, 127, 46, 47, 48, 49, 51, 52, 50, 72, 73, 74] rfl
set_option maxRecDepth 100000 in
theorem wsL_law_r3_in : ∀ w ∈ wsL_law_r3, w ∈ lw_tbl := in_places [75, 119, 121, 123, 76, 77, 78, 79, 53, 54, 56, 80, 81, 82, 83, 84, 85, 86, 87, 88, 90, 0, 91, 92] rfl
set_option maxRecDepth 100000 in
theorem wsL_law_r4_in : ∀ w ∈ wsL_law_r4, w ∈ lw_tbl := in_places [93, 94, 95, 96, 97, 28, 98, 99, 100, 101, 102, 449, 450, 451, 452, 467, 468, 469, 471, 453, 455, 6, 456, 457] rfl
set_option maxRecDepth 100000 in
theorem wsL_law_r5_in : ∀ w ∈ wsL_law_r5, w ∈ lw_tbl := in_places [458, 459, 460, 462, 7, 463, 464, 465, 466, 173, 174, 175, 176, 104, 106, 108, 110, 177, 178, 179, 180, 182, 1, 183] rfl
set_option maxRecDepth 100000 in
theorem wsL_law_r6_in : ∀ w ∈ wsL_law_r6, w ∈ lw_tbl := in_places [184, 186, 2, 187, 188, 190, 3, 191, 192, 193, 194, 195, 196, 197, 198, 199, 200, 201, 202, 203, 204, 486, 487, 488] rfl
set_option maxRecDepth 100000 in
theorem wsL_law_r7_in : ∀ w ∈ wsL_law_r7, w ∈ lw_tbl := in_places [489, 490, 491, 492, 493, 495, 8, 496, 497, 499, 9, 500, 470, 501, 502, 503, 205, 206, 207, 208, 112, 504, 505, 506] rfl
set_option maxRecDepth 100000 in
theorem wsL_law_r8_in : ∀ w ∈ wsL_law_r8, w ∈ lw_tbl := in_places [507, 508, 510, 10, 511, 209, 210, 211, 212, 213, 114, 512, 513, 514, 515, 516, 214, 215, 216, 217, 116, 517, 518, 519] rfl
set_option maxRecDepth 100000 in
theorem wsL_law_r9_in : ∀ w ∈ wsL_law_r9, w ∈ lw_tbl := in_places [520, 218, 219, 220, 221, 118, 521, 522, 523, 524, 222, 223, 224, 225, 226, 227, 228, 229, 230, 231, 232, 233, 234, 235] rfl
set_option maxRecDepth 100000 in
theorem wsL_law_r10_in : ∀ w ∈ wsL_law_r10, w ∈ lw_tbl := in_places [236, 237, 238, 240, 4, 241, 242, 243, 28, 244, 245, 246, 247, 248, 249, 250, 251, 252, 278, 279, 280, 253, 254, 255] rfl
set_option maxRecDepth 100000 in
theorem wsL_law_r11_in : ∀ w ∈ wsL_law_r11, w ∈ lw_tbl := in_places [256, 257, 258, 259, 260, 261, 262, 263, 264, 57, 265, 266, 267, 268, 269, 270, 271, 272, 273, 274, 275, 276, 277, 281] rfl
set_option maxRecDepth 100000 in
theorem wsL_law_r12_in : ∀ w ∈ wsL_law_r12, w ∈ lw_tbl := in_places [282, 283, 284, 285, 286, 287, 288, 289, 290, 291, 292, 293, 525, 526, 527, 528, 529, 531, 11, 532, 533, 535, 12, 536] rfl
set_option maxRecDepth 100000 in
theorem wsL_law_r13_in : ∀ w ∈ wsL_law_r13, w ∈ lw_tbl := in_places [537, 539, 13, 540, 541, 543, 14, 544, 545, 547, 15, 548, 549, 551, 16, 552, 553, 555, 17, 556, 557, 559, 18, 560] rfl
set_option maxRecDepth 100000 in
theorem wsL_law_r14_in : ∀ w ∈ wsL_law_r14, w ∈ lw_tbl := in_places [561, 563, 19, 564, 565, 566, 294, 295, 296, 297, 298, 299, 300, 301, 567, 568, 569, 570, 302, 303, 304, 305, 306, 571] rfl
set_option maxRecDepth 100000 in
theorem wsL_law_r15_in : ∀ w ∈ wsL_law_r15, w ∈ lw_tbl := in_places [572, 573, 574, 575, 576, 577, 307, 308, 309, 310, 311, 578, 579, 580, 581, 312, 313, 314, 315, 316, 317, 318, 319, 582] rfl
set_option maxRecDepth 100000 in
theorem wsL_law_r16_in : ∀ w ∈ wsL_law_r16, w ∈ lw_tbl := in_places [583, 584, 585, 320, 321, 322, 323, 586, 587, 588, 589, 324, 325, 326, 327, 328, 329, 330, 331, 332, 590, 591, 592, 593] rfl
set_option maxRecDepth 100000 in
theorem wsL_law_r17_in : ∀ w ∈ wsL_law_r17, w ∈ lw_tbl := in_places [333, 334, 335, 336, 337, 594, 595, 596, 597, 338, 339, 340, 341, 598, 599, 600, 601, 342, 343, 344, 345, 346, 347, 348] rfl
set_option maxRecDepth 100000 in
theorem wsL_law_r18_in : ∀ w ∈ wsL_law_r18, w ∈ lw_tbl := in_places [349, 350, 351, 352, 353, 602, 603, 604, 605, 606, 608, 20, 609, 354, 355, 356, 357, 124, 358, 359, 360, 361, 363, 364] rfl
set_option maxRecDepth 100000 in
theorem wsL_law_r19_in : ∀ w ∈ wsL_law_r19, w ∈ lw_tbl := in_places [365, 366, 367, 610, 611, 612, 613, 614, 616, 21, 617, 368, 369, 370, 371, 372, 618, 619, 620, 621, 622, 373, 374, 375] rfl
set_option maxRecDepth 100000 in
theorem wsL_law_r20_in : ∀ w ∈ wsL_law_r20, w ∈ lw_tbl := in_places [376, 377, 623, 624, 625, 626, 378, 379, 380, 381, 55, 382, 627, 628, 629, 630, 383, 384, 385, 386, 387, 389, 5, 390] rfl
set_option maxRecDepth 100000 in
theorem wsL_law_r21_in : ∀ w ∈ wsL_law_r21, w ∈ lw_tbl := in_places [391, 392, 393, 394, 631, 632, 633, 634, 635, 637, 22, 638, 395, 396, 397, 398, 399, 400, 401, 402, 639, 640, 641, 642] rfl
set_option maxRecDepth 100000 in
theorem wsL_law_r22_in : ∀ w ∈ wsL_law_r22, w ∈ lw_tbl := in_places [403, 404, 405, 406, 120, 643, 644, 645, 646, 407, 408, 409, 410, 122, 647, 648, 649, 650, 411, 412, 413, 414, 651, 652] rfl
set_option maxRecDepth 100000 in
theorem wsL_law_r23_in : ∀ w ∈ wsL_law_r23, w ∈ lw_tbl := in_places [653, 654, 415, 416, 417, 418, 655, 656, 657, 658, 419, 420, 421, 422, 659, 660, 661, 662, 423, 424, 425, 426, 427, 126] rfl
set_option maxRecDepth 100000 in
theorem wsL_law_r24_in : ∀ w ∈ wsL_law_r24, w ∈ lw_tbl := in_places [128, 428, 429, 430, 431, 432, 433, 434, 435, 437, 438, 439, 440, 442, 443, 444, 445, 446, 663, 664, 665, 666, 667, 472] rfl
set_option maxRecDepth 100000 in
theorem wsL_law_r25_in : ∀ w ∈ wsL_law_r25, w ∈ lw_tbl := in_places [668, 670, 23, 671, 672] rfl
set_option maxRecDepth 100000 in
theorem wsX00_in : ∀ w ∈ wsX00, w ∈ lw_tbl := in_places [58, 60, 62, 64, 66, 68] rfl
set_option maxRecDepth 100000 in
theorem wsX10_in : ∀ w ∈ wsX10, w ∈ lw_tbl := in_places [129, 131, 133, 135, 137, 139, 141, 143, 145, 147, 149, 151, 153] rfl
set_option maxRecDepth 100000 in
theorem wsX20_in : ∀ w ∈ wsX20, w ∈ lw_tbl := in_places [162, 164, 166, 168, 170] rfl
set_option maxRecDepth 100000 in
theorem wsX30_in : ∀ w ∈ wsX30, w ∈ lw_tbl := in_places [473, 475, 477, 479, 481, 483] rfl
theorem wsL_law_in : ∀ w ∈ wsL_law, w ∈ lw_tbl := in_app (in_app (in_app (in_app (in_app (in_app wsL_law_r1_in (in_app wsL_law_r2_in (in_app wsL_law_r3_in (in_app wsL_law_r4_in (in_app wsL_law_r5_in (in_app wsL_law_r6_in (in_app wsL_law_r7_in (in_app wsL_law_r8_in (in_app wsL_law_r9_in (in_app wsL_law_r10_in (in_app wsL_law_r11_in (in_app wsL_law_r12_in (in_app wsL_law_r13_in (in_app wsL_law_r14_in (in_app wsL_law_r15_in (in_app wsL_law_r16_in (in_app wsL_law_r17_in (in_app wsL_law_r18_in (in_app wsL_law_r19_in (in_app wsL_law_r20_in (in_app wsL_law_r21_in (in_app wsL_law_r22_in (in_app wsL_law_r23_in (in_app wsL_law_r24_in (wsL_law_r25_in))))))))))))))))))))))))) wsX20_in) wsX30_in) wsX10_in) wsX00_in) (fun _ h => absurd h List.not_mem_nil)

theorem inlX0 : ∀ w ∈ wsX00, w ∈ wsL_law := fun _ h => List.mem_append_left _ (List.mem_append_right _ h)
theorem inX0 : ∀ w ∈ wsX00, w ∈ lw_tbl := fun w h => wsL_law_in w (inlX0 w h)
theorem inlX1 : ∀ w ∈ wsX10, w ∈ wsL_law := fun _ h => List.mem_append_left _ (List.mem_append_left _ (List.mem_append_right _ h))
theorem inX1 : ∀ w ∈ wsX10, w ∈ lw_tbl := fun w h => wsL_law_in w (inlX1 w h)
theorem inlX2 : ∀ w ∈ wsX20, w ∈ wsL_law := fun _ h => List.mem_append_left _ (List.mem_append_left _ (List.mem_append_left _ (List.mem_append_left _ (List.mem_append_right _ h))))
theorem inX2 : ∀ w ∈ wsX20, w ∈ lw_tbl := fun w h => wsL_law_in w (inlX2 w h)
theorem inlX3 : ∀ w ∈ wsX30, w ∈ wsL_law := fun _ h => List.mem_append_left _ (List.mem_append_left _ (List.mem_append_left _ (List.mem_append_right _ h)))
theorem inX3 : ∀ w ∈ wsX30, w ∈ lw_tbl := fun w h => wsL_law_in w (inlX3 w h)
theorem inJ9 : ∀ w ∈ wsJ90, w ∈ lw_tbl := by decide +kernel
end
section
theorem dJ9_floorMod_7cf53_0 : decode cJ9_floorMod_7cf53 0 = .ok (.iload_n 0, 1) := by decide +kernel
theorem dJ9_floorMod_7cf53_1 : decode cJ9_floorMod_7cf53 1 = .ok (.iload_n 1, 1) := by decide +kernel
theorem dJ9_floorMod_7cf53_2 : decode cJ9_floorMod_7cf53 2 = .ok (.irem, 1) := by decide +kernel
theorem dJ9_floorMod_7cf53_3 : decode cJ9_floorMod_7cf53 3 = .ok (.istore_n 2, 1) := by decide +kernel
theorem dJ9_floorMod_7cf53_4 : decode cJ9_floorMod_7cf53 4 = .ok (.iload_n 0, 1) := by decide +kernel
theorem dJ9_floorMod_7cf53_5 : decode cJ9_floorMod_7cf53 5 = .ok (.iload_n 1, 1) := by decide +kernel
theorem dJ9_floorMod_7cf53_6 : decode cJ9_floorMod_7cf53 6 = .ok (.ixor, 1) := by decide +kernel
theorem dJ9_floorMod_7cf53_7 : decode cJ9_floorMod_7cf53 7 = .ok (.ifCond .ge 11, 3) := by decide +kernel
theorem dJ9_floorMod_7cf53_10 : decode cJ9_floorMod_7cf53 10 = .ok (.iload_n 2, 1) := by decide +kernel
theorem dJ9_floorMod_7cf53_11 : decode cJ9_floorMod_7cf53 11 = .ok (.ifCond .eq 7, 3) := by decide +kernel
theorem dJ9_floorMod_7cf53_14 : decode cJ9_floorMod_7cf53 14 = .ok (.iload_n 2, 1) := by decide +kernel
theorem dJ9_floorMod_7cf53_15 : decode cJ9_floorMod_7cf53 15 = .ok (.iload_n 1, 1) := by decide +kernel
theorem dJ9_floorMod_7cf53_16 : decode cJ9_floorMod_7cf53 16 = .ok (.iadd, 1) := by decide +kernel
theorem dJ9_floorMod_7cf53_17 : decode cJ9_floorMod_7cf53 17 = .ok (.ireturn, 1) := by decide +kernel
theorem dJ9_floorMod_7cf53_18 : decode cJ9_floorMod_7cf53 18 = .ok (.iload_n 2, 1) := by decide +kernel
theorem dJ9_floorMod_7cf53_19 : decode cJ9_floorMod_7cf53 19 = .ok (.ireturn, 1) := by decide +kernel
theorem dJ9_max_7cf53_0 : decode cJ9_max_7cf53 0 = .ok (.iload_n 0, 1) := by decide +kernel
theorem dJ9_max_7cf53_1 : decode cJ9_max_7cf53 1 = .ok (.iload_n 1, 1) := by decide +kernel
theorem dJ9_max_7cf53_2 : decode cJ9_max_7cf53 2 = .ok (.if_icmp .lt 7, 3) := by decide +kernel
theorem dJ9_max_7cf53_5 : decode cJ9_max_7cf53 5 = .ok (.iload_n 0, 1) := by decide +kernel
theorem dJ9_max_7cf53_6 : decode cJ9_max_7cf53 6 = .ok (.goto 4, 3) := by decide +kernel
theorem dJ9_max_7cf53_9 : decode cJ9_max_7cf53 9 = .ok (.iload_n 1, 1) := by decide +kernel
theorem dJ9_max_7cf53_10 : decode cJ9_max_7cf53 10 = .ok (.ireturn, 1) := by decide +kernel
theorem dJ9_max_f86c9_0 : decode cJ9_max_f86c9 0 = .ok (.lload_n 0, 1) := by decide +kernel
theorem dJ9_max_f86c9_1 : decode cJ9_max_f86c9 1 = .ok (.lload_n 2, 1) := by decide +kernel
theorem dJ9_max_f86c9_2 : decode cJ9_max_f86c9 2 = .ok (.lcmp, 1) := by decide +kernel
theorem dJ9_max_f86c9_3 : decode cJ9_max_f86c9 3 = .ok (.ifCond .lt 7, 3) := by decide +kernel
theorem dJ9_max_f86c9_6 : decode cJ9_max_f86c9 6 = .ok (.lload_n 0, 1) := by decide +kernel
theorem dJ9_max_f86c9_7 : decode cJ9_max_f86c9 7 = .ok (.goto 4, 3) := by decide +kernel
theorem dJ9_max_f86c9_10 : decode cJ9_max_f86c9 10 = .ok (.lload_n 2, 1) := by decide +kernel
theorem dJ9_max_f86c9_11 : decode cJ9_max_f86c9 11 = .ok (.lreturn, 1) := by decide +kernel
theorem dJ9_min_7cf53_0 : decode cJ9_min_7cf53 0 = .ok (.iload_n 0, 1) := by decide +kernel
theorem dJ9_min_7cf53_1 : decode cJ9_min_7cf53 1 = .ok (.iload_n 1, 1) := by decide +kernel
theorem dJ9_min_7cf53_2 : decode cJ9_min_7cf53 2 = .ok (.if_icmp .gt 7, 3) := by decide +kernel
theorem dJ9_min_7cf53_5 : decode cJ9_min_7cf53 5 = .ok (.iload_n 0, 1) := by decide +kernel
theorem dJ9_min_7cf53_6 : decode cJ9_min_7cf53 6 = .ok (.goto 4, 3) := by decide +kernel
theorem dJ9_min_7cf53_9 : decode cJ9_min_7cf53 9 = .ok (.iload_n 1, 1) := by decide +kernel
theorem dJ9_min_7cf53_10 : decode cJ9_min_7cf53 10 = .ok (.ireturn, 1) := by decide +kernel
theorem dX0_init_0 : decode cX0_init 0 = .ok (.aload_n 0, 1) := by decide +kernel
theorem dX0_init_1 : decode cX0_init 1 = .ok (.invokespecial 3, 3) := by decide +kernel
theorem dX0_init_4 : decode cX0_init 4 = .ok (.aload_n 0, 1) := by decide +kernel
theorem dX0_init_5 : decode cX0_init 5 = .ok (.sipush 520, 3) := by decide +kernel
theorem dX0_init_8 : decode cX0_init 8 = .ok (.newarray .int, 2) := by decide +kernel
theorem dX0_init_10 : decode cX0_init 10 = .ok (.putfield 9, 3) := by decide +kernel
theorem dX0_init_13 : decode cX0_init 13 = .ok (.aload_n 0, 1) := by decide +kernel
theorem dX0_init_14 : decode cX0_init 14 = .ok (.sipush 520, 3) := by decide +kernel
theorem dX0_init_17 : decode cX0_init 17 = .ok (.newarray .int, 2) := by decide +kernel
theorem dX0_init_19 : decode cX0_init 19 = .ok (.putfield 15, 3) := by decide +kernel
theorem dX0_init_22 : decode cX0_init 22 = .ok (.aload_n 0, 1) := by decide +kernel
theorem dX0_init_23 : decode cX0_init 23 = .ok (.iload_n 1, 1) := by decide +kernel
theorem dX0_init_24 : decode cX0_init 24 = .ok (.putfield 18, 3) := by decide +kernel
theorem dX0_init_27 : decode cX0_init 27 = .ok (.return_, 1) := by decide +kernel
theorem dX0_clear_0 : decode cX0_clear 0 = .ok (.aload_n 0, 1) := by decide +kernel
theorem dX0_clear_1 : decode cX0_clear 1 = .ok (.iconst 0, 1) := by decide +kernel
theorem dX0_clear_2 : decode cX0_clear 2 = .ok (.putfield 22, 3) := by decide +kernel
theorem dX0_clear_5 : decode cX0_clear 5 = .ok (.aload_n 0, 1) := by decide +kernel
theorem dX0_clear_6 : decode cX0_clear 6 = .ok (.iconst 0, 1) := by decide +kernel
theorem dX0_clear_7 : decode cX0_clear 7 = .ok (.putfield 26, 3) := by decide +kernel
theorem dX0_clear_10 : decode cX0_clear 10 = .ok (.aload_n 0, 1) := by decide +kernel
theorem dX0_clear_11 : decode cX0_clear 11 = .ok (.lconst 0, 1) := by decide +kernel
theorem dX0_clear_12 : decode cX0_clear 12 = .ok (.putfield 29, 3) := by decide +kernel
theorem dX0_clear_15 : decode cX0_clear 15 = .ok (.return_, 1) := by decide +kernel
theorem dX0_copyFrom_0 : decode cX0_copyFrom 0 = .ok (.aload_n 0, 1) := by decide +kernel
theorem dX0_copyFrom_1 : decode cX0_copyFrom 1 = .ok (.invokevirtual 33, 3) := by decide +kernel
theorem dX0_copyFrom_4 : decode cX0_copyFrom 4 = .ok (.iconst 0, 1) := by decide +kernel
theorem dX0_copyFrom_5 : decode cX0_copyFrom 5 = .ok (.istore_n 2, 1) := by decide +kernel
theorem dX0_copyFrom_6 : decode cX0_copyFrom 6 = .ok (.iload_n 2, 1) := by decide +kernel
theorem dX0_copyFrom_7 : decode cX0_copyFrom 7 = .ok (.aload_n 1, 1) := by decide +kernel
theorem dX0_copyFrom_8 : decode cX0_copyFrom 8 = .ok (.getfield 26, 3) := by decide +kernel
theorem dX0_copyFrom_11 : decode cX0_copyFrom 11 = .ok (.if_icmp .ge 31, 3) := by decide +kernel
theorem dX0_copyFrom_14 : decode cX0_copyFrom 14 = .ok (.aload_n 1, 1) := by decide +kernel
theorem dX0_copyFrom_15 : decode cX0_copyFrom 15 = .ok (.iload_n 2, 1) := by decide +kernel
theorem dX0_copyFrom_16 : decode cX0_copyFrom 16 = .ok (.invokevirtual 36, 3) := by decide +kernel
theorem dX0_copyFrom_19 : decode cX0_copyFrom 19 = .ok (.istore_n 3, 1) := by decide +kernel
theorem dX0_copyFrom_20 : decode cX0_copyFrom 20 = .ok (.aload_n 0, 1) := by decide +kernel
theorem dX0_copyFrom_21 : decode cX0_copyFrom 21 = .ok (.aload_n 1, 1) := by decide +kernel
theorem dX0_copyFrom_22 : decode cX0_copyFrom 22 = .ok (.getfield 9, 3) := by decide +kernel
theorem dX0_copyFrom_25 : decode cX0_copyFrom 25 = .ok (.iload_n 3, 1) := by decide +kernel
theorem dX0_copyFrom_26 : decode cX0_copyFrom 26 = .ok (.iaload, 1) := by decide +kernel
theorem dX0_copyFrom_27 : decode cX0_copyFrom 27 = .ok (.aload_n 1, 1) := by decide +kernel
theorem dX0_copyFrom_28 : decode cX0_copyFrom 28 = .ok (.getfield 15, 3) := by decide +kernel
theorem dX0_copyFrom_31 : decode cX0_copyFrom 31 = .ok (.iload_n 3, 1) := by decide +kernel
theorem dX0_copyFrom_32 : decode cX0_copyFrom 32 = .ok (.iaload, 1) := by decide +kernel
theorem dX0_copyFrom_33 : decode cX0_copyFrom 33 = .ok (.invokevirtual 40, 3) := by decide +kernel
theorem dX0_copyFrom_36 : decode cX0_copyFrom 36 = .ok (.iinc 2 1, 3) := by decide +kernel
theorem dX0_copyFrom_39 : decode cX0_copyFrom 39 = .ok (.goto (-33), 3) := by decide +kernel
theorem dX0_copyFrom_42 : decode cX0_copyFrom 42 = .ok (.return_, 1) := by decide +kernel
theorem dX0_placeOfAge_0 : decode cX0_placeOfAge 0 = .ok (.aload_n 0, 1) := by decide +kernel
theorem dX0_placeOfAge_1 : decode cX0_placeOfAge 1 = .ok (.getfield 22, 3) := by decide +kernel
theorem dX0_placeOfAge_4 : decode cX0_placeOfAge 4 = .ok (.iload_n 1, 1) := by decide +kernel
theorem dX0_placeOfAge_5 : decode cX0_placeOfAge 5 = .ok (.iadd, 1) := by decide +kernel
theorem dX0_placeOfAge_6 : decode cX0_placeOfAge 6 = .ok (.sipush 520, 3) := by decide +kernel
theorem dX0_placeOfAge_9 : decode cX0_placeOfAge 9 = .ok (.invokestatic 44, 3) := by decide +kernel
theorem dX0_placeOfAge_12 : decode cX0_placeOfAge 12 = .ok (.ireturn, 1) := by decide +kernel
theorem dX0_placeOfIndex_0 : decode cX0_placeOfIndex 0 = .ok (.aload_n 0, 1) := by decide +kernel
theorem dX0_placeOfIndex_1 : decode cX0_placeOfIndex 1 = .ok (.getfield 18, 3) := by decide +kernel
theorem dX0_placeOfIndex_4 : decode cX0_placeOfIndex 4 = .ok (.ifCond .eq 14, 3) := by decide +kernel
theorem dX0_placeOfIndex_7 : decode cX0_placeOfIndex 7 = .ok (.aload_n 0, 1) := by decide +kernel
theorem dX0_placeOfIndex_8 : decode cX0_placeOfIndex 8 = .ok (.getfield 26, 3) := by decide +kernel
theorem dX0_placeOfIndex_11 : decode cX0_placeOfIndex 11 = .ok (.iconst 1, 1) := by decide +kernel
theorem dX0_placeOfIndex_12 : decode cX0_placeOfIndex 12 = .ok (.isub, 1) := by decide +kernel
theorem dX0_placeOfIndex_13 : decode cX0_placeOfIndex 13 = .ok (.iload_n 1, 1) := by decide +kernel
theorem dX0_placeOfIndex_14 : decode cX0_placeOfIndex 14 = .ok (.isub, 1) := by decide +kernel
theorem dX0_placeOfIndex_15 : decode cX0_placeOfIndex 15 = .ok (.goto 4, 3) := by decide +kernel
theorem dX0_placeOfIndex_18 : decode cX0_placeOfIndex 18 = .ok (.iload_n 1, 1) := by decide +kernel
theorem dX0_placeOfIndex_19 : decode cX0_placeOfIndex 19 = .ok (.istore_n 2, 1) := by decide +kernel
theorem dX0_placeOfIndex_20 : decode cX0_placeOfIndex 20 = .ok (.aload_n 0, 1) := by decide +kernel
theorem dX0_placeOfIndex_21 : decode cX0_placeOfIndex 21 = .ok (.getfield 22, 3) := by decide +kernel
theorem dX0_placeOfIndex_24 : decode cX0_placeOfIndex 24 = .ok (.iload_n 2, 1) := by decide +kernel
theorem dX0_placeOfIndex_25 : decode cX0_placeOfIndex 25 = .ok (.iadd, 1) := by decide +kernel
theorem dX0_placeOfIndex_26 : decode cX0_placeOfIndex 26 = .ok (.sipush 520, 3) := by decide +kernel
theorem dX0_placeOfIndex_29 : decode cX0_placeOfIndex 29 = .ok (.invokestatic 44, 3) := by decide +kernel
theorem dX0_placeOfIndex_32 : decode cX0_placeOfIndex 32 = .ok (.ireturn, 1) := by decide +kernel
theorem dX0_volumeOf_0 : decode cX0_volumeOf 0 = .ok (.aload_n 0, 1) := by decide +kernel
theorem dX0_volumeOf_1 : decode cX0_volumeOf 1 = .ok (.getfield 9, 3) := by decide +kernel
theorem dX0_volumeOf_4 : decode cX0_volumeOf 4 = .ok (.aload_n 0, 1) := by decide +kernel
theorem dX0_volumeOf_5 : decode cX0_volumeOf 5 = .ok (.iload_n 1, 1) := by decide +kernel
theorem dX0_volumeOf_6 : decode cX0_volumeOf 6 = .ok (.invokevirtual 50, 3) := by decide +kernel
theorem dX0_volumeOf_9 : decode cX0_volumeOf 9 = .ok (.iaload, 1) := by decide +kernel
theorem dX0_volumeOf_10 : decode cX0_volumeOf 10 = .ok (.ireturn, 1) := by decide +kernel
theorem dX0_densityOf_0 : decode cX0_densityOf 0 = .ok (.aload_n 0, 1) := by decide +kernel
theorem dX0_densityOf_1 : decode cX0_densityOf 1 = .ok (.getfield 15, 3) := by decide +kernel
theorem dX0_densityOf_4 : decode cX0_densityOf 4 = .ok (.aload_n 0, 1) := by decide +kernel
theorem dX0_densityOf_5 : decode cX0_densityOf 5 = .ok (.iload_n 1, 1) := by decide +kernel
theorem dX0_densityOf_6 : decode cX0_densityOf 6 = .ok (.invokevirtual 50, 3) := by decide +kernel
theorem dX0_densityOf_9 : decode cX0_densityOf 9 = .ok (.iaload, 1) := by decide +kernel
theorem dX0_densityOf_10 : decode cX0_densityOf 10 = .ok (.ireturn, 1) := by decide +kernel
theorem dX0_enter_0 : decode cX0_enter 0 = .ok (.aload_n 0, 1) := by decide +kernel
theorem dX0_enter_1 : decode cX0_enter 1 = .ok (.iload_n 2, 1) := by decide +kernel
theorem dX0_enter_2 : decode cX0_enter 2 = .ok (.invokevirtual 53, 3) := by decide +kernel
theorem dX0_enter_5 : decode cX0_enter 5 = .ok (.ifCond .ne 36, 3) := by decide +kernel
theorem dX0_enter_8 : decode cX0_enter 8 = .ok (.aload_n 0, 1) := by decide +kernel
theorem dX0_enter_9 : decode cX0_enter 9 = .ok (.aload_n 0, 1) := by decide +kernel
theorem dX0_enter_10 : decode cX0_enter 10 = .ok (.getfield 26, 3) := by decide +kernel
theorem dX0_enter_13 : decode cX0_enter 13 = .ok (.invokevirtual 36, 3) := by decide +kernel
theorem dX0_enter_16 : decode cX0_enter 16 = .ok (.istore_n 3, 1) := by decide +kernel
theorem dX0_enter_17 : decode cX0_enter 17 = .ok (.aload_n 0, 1) := by decide +kernel
theorem dX0_enter_18 : decode cX0_enter 18 = .ok (.getfield 9, 3) := by decide +kernel
theorem dX0_enter_21 : decode cX0_enter 21 = .ok (.iload_n 3, 1) := by decide +kernel
theorem dX0_enter_22 : decode cX0_enter 22 = .ok (.iconst 0, 1) := by decide +kernel
theorem dX0_enter_23 : decode cX0_enter 23 = .ok (.iastore, 1) := by decide +kernel
theorem dX0_enter_24 : decode cX0_enter 24 = .ok (.aload_n 0, 1) := by decide +kernel
theorem dX0_enter_25 : decode cX0_enter 25 = .ok (.getfield 15, 3) := by decide +kernel
theorem dX0_enter_28 : decode cX0_enter 28 = .ok (.iload_n 3, 1) := by decide +kernel
theorem dX0_enter_29 : decode cX0_enter 29 = .ok (.iload_n 2, 1) := by decide +kernel
theorem dX0_enter_30 : decode cX0_enter 30 = .ok (.iastore, 1) := by decide +kernel
theorem dX0_enter_31 : decode cX0_enter 31 = .ok (.aload_n 0, 1) := by decide +kernel
theorem dX0_enter_32 : decode cX0_enter 32 = .ok (.dup, 1) := by decide +kernel
theorem dX0_enter_33 : decode cX0_enter 33 = .ok (.getfield 26, 3) := by decide +kernel
theorem dX0_enter_36 : decode cX0_enter 36 = .ok (.iconst 1, 1) := by decide +kernel
theorem dX0_enter_37 : decode cX0_enter 37 = .ok (.iadd, 1) := by decide +kernel
theorem dX0_enter_38 : decode cX0_enter 38 = .ok (.putfield 26, 3) := by decide +kernel
theorem dX0_enter_41 : decode cX0_enter 41 = .ok (.aload_n 0, 1) := by decide +kernel
theorem dX0_enter_42 : decode cX0_enter 42 = .ok (.aload_n 0, 1) := by decide +kernel
theorem dX0_enter_43 : decode cX0_enter 43 = .ok (.getfield 26, 3) := by decide +kernel
theorem dX0_enter_46 : decode cX0_enter 46 = .ok (.iconst 1, 1) := by decide +kernel
theorem dX0_enter_47 : decode cX0_enter 47 = .ok (.isub, 1) := by decide +kernel
theorem dX0_enter_48 : decode cX0_enter 48 = .ok (.invokevirtual 36, 3) := by decide +kernel
theorem dX0_enter_51 : decode cX0_enter 51 = .ok (.istore_n 3, 1) := by decide +kernel
theorem dX0_enter_52 : decode cX0_enter 52 = .ok (.aload_n 0, 1) := by decide +kernel
theorem dX0_enter_53 : decode cX0_enter 53 = .ok (.getfield 9, 3) := by decide +kernel
theorem dX0_enter_56 : decode cX0_enter 56 = .ok (.iload_n 3, 1) := by decide +kernel
theorem dX0_enter_57 : decode cX0_enter 57 = .ok (.dup2, 1) := by decide +kernel
theorem dX0_enter_58 : decode cX0_enter 58 = .ok (.iaload, 1) := by decide +kernel
theorem dX0_enter_59 : decode cX0_enter 59 = .ok (.iload_n 1, 1) := by decide +kernel
theorem dX0_enter_60 : decode cX0_enter 60 = .ok (.iadd, 1) := by decide +kernel
theorem dX0_enter_61 : decode cX0_enter 61 = .ok (.iastore, 1) := by decide +kernel
theorem dX0_enter_62 : decode cX0_enter 62 = .ok (.aload_n 0, 1) := by decide +kernel
theorem dX0_enter_63 : decode cX0_enter 63 = .ok (.dup, 1) := by decide +kernel
theorem dX0_enter_64 : decode cX0_enter 64 = .ok (.getfield 29, 3) := by decide +kernel
theorem dX0_enter_67 : decode cX0_enter 67 = .ok (.iload_n 1, 1) := by decide +kernel
theorem dX0_enter_68 : decode cX0_enter 68 = .ok (.i2l, 1) := by decide +kernel
theorem dX0_enter_69 : decode cX0_enter 69 = .ok (.aload_n 0, 1) := by decide +kernel
theorem dX0_enter_70 : decode cX0_enter 70 = .ok (.getfield 15, 3) := by decide +kernel
theorem dX0_enter_73 : decode cX0_enter 73 = .ok (.iload_n 3, 1) := by decide +kernel
theorem dX0_enter_74 : decode cX0_enter 74 = .ok (.iaload, 1) := by decide +kernel
theorem dX0_enter_75 : decode cX0_enter 75 = .ok (.i2l, 1) := by decide +kernel
theorem dX0_enter_76 : decode cX0_enter 76 = .ok (.lmul, 1) := by decide +kernel
theorem dX0_enter_77 : decode cX0_enter 77 = .ok (.ladd, 1) := by decide +kernel
theorem dX0_enter_78 : decode cX0_enter 78 = .ok (.putfield 29, 3) := by decide +kernel
theorem dX0_enter_81 : decode cX0_enter 81 = .ok (.return_, 1) := by decide +kernel
theorem dX0_joinsNewest_0 : decode cX0_joinsNewest 0 = .ok (.aload_n 0, 1) := by decide +kernel
theorem dX0_joinsNewest_1 : decode cX0_joinsNewest 1 = .ok (.getfield 26, 3) := by decide +kernel
theorem dX0_joinsNewest_4 : decode cX0_joinsNewest 4 = .ok (.sipush 520, 3) := by decide +kernel
theorem dX0_joinsNewest_7 : decode cX0_joinsNewest 7 = .ok (.if_icmp .ge 29, 3) := by decide +kernel
theorem dX0_joinsNewest_10 : decode cX0_joinsNewest 10 = .ok (.aload_n 0, 1) := by decide +kernel
theorem dX0_joinsNewest_11 : decode cX0_joinsNewest 11 = .ok (.getfield 26, 3) := by decide +kernel
theorem dX0_joinsNewest_14 : decode cX0_joinsNewest 14 = .ok (.ifCond .le 26, 3) := by decide +kernel
theorem dX0_joinsNewest_17 : decode cX0_joinsNewest 17 = .ok (.aload_n 0, 1) := by decide +kernel
theorem dX0_joinsNewest_18 : decode cX0_joinsNewest 18 = .ok (.getfield 15, 3) := by decide +kernel
theorem dX0_joinsNewest_21 : decode cX0_joinsNewest 21 = .ok (.aload_n 0, 1) := by decide +kernel
theorem dX0_joinsNewest_22 : decode cX0_joinsNewest 22 = .ok (.aload_n 0, 1) := by decide +kernel
theorem dX0_joinsNewest_23 : decode cX0_joinsNewest 23 = .ok (.getfield 26, 3) := by decide +kernel
theorem dX0_joinsNewest_26 : decode cX0_joinsNewest 26 = .ok (.iconst 1, 1) := by decide +kernel
theorem dX0_joinsNewest_27 : decode cX0_joinsNewest 27 = .ok (.isub, 1) := by decide +kernel
theorem dX0_joinsNewest_28 : decode cX0_joinsNewest 28 = .ok (.invokevirtual 36, 3) := by decide +kernel
theorem dX0_joinsNewest_31 : decode cX0_joinsNewest 31 = .ok (.iaload, 1) := by decide +kernel
theorem dX0_joinsNewest_32 : decode cX0_joinsNewest 32 = .ok (.iload_n 1, 1) := by decide +kernel
theorem dX0_joinsNewest_33 : decode cX0_joinsNewest 33 = .ok (.if_icmp .ne 7, 3) := by decide +kernel
theorem dX0_joinsNewest_36 : decode cX0_joinsNewest 36 = .ok (.iconst 1, 1) := by decide +kernel
theorem dX0_joinsNewest_37 : decode cX0_joinsNewest 37 = .ok (.goto 4, 3) := by decide +kernel
theorem dX0_joinsNewest_40 : decode cX0_joinsNewest 40 = .ok (.iconst 0, 1) := by decide +kernel
theorem dX0_joinsNewest_41 : decode cX0_joinsNewest 41 = .ok (.ireturn, 1) := by decide +kernel
theorem dX0_release_0 : decode cX0_release 0 = .ok (.iload_n 1, 1) := by decide +kernel
theorem dX0_release_1 : decode cX0_release 1 = .ok (.istore_n 2, 1) := by decide +kernel
theorem dX0_release_2 : decode cX0_release 2 = .ok (.aload_n 0, 1) := by decide +kernel
theorem dX0_release_3 : decode cX0_release 3 = .ok (.getfield 26, 3) := by decide +kernel
theorem dX0_release_6 : decode cX0_release 6 = .ok (.istore_n 3, 1) := by decide +kernel
theorem dX0_release_7 : decode cX0_release 7 = .ok (.iload_n 3, 1) := by decide +kernel
theorem dX0_release_8 : decode cX0_release 8 = .ok (.ifCond .le 21, 3) := by decide +kernel
theorem dX0_release_11 : decode cX0_release 11 = .ok (.iload_n 2, 1) := by decide +kernel
theorem dX0_release_12 : decode cX0_release 12 = .ok (.ifCond .le 17, 3) := by decide +kernel
theorem dX0_release_15 : decode cX0_release 15 = .ok (.iload_n 2, 1) := by decide +kernel
theorem dX0_release_16 : decode cX0_release 16 = .ok (.aload_n 0, 1) := by decide +kernel
theorem dX0_release_17 : decode cX0_release 17 = .ok (.iload_n 2, 1) := by decide +kernel
theorem dX0_release_18 : decode cX0_release 18 = .ok (.invokevirtual 57, 3) := by decide +kernel
theorem dX0_release_21 : decode cX0_release 21 = .ok (.isub, 1) := by decide +kernel
theorem dX0_release_22 : decode cX0_release 22 = .ok (.istore_n 2, 1) := by decide +kernel
theorem dX0_release_23 : decode cX0_release 23 = .ok (.iinc 3 (-1), 3) := by decide +kernel
theorem dX0_release_26 : decode cX0_release 26 = .ok (.goto (-19), 3) := by decide +kernel
theorem dX0_release_29 : decode cX0_release 29 = .ok (.return_, 1) := by decide +kernel
theorem dX0_releaseInto_0 : decode cX0_releaseInto 0 = .ok (.iload_n 2, 1) := by decide +kernel
theorem dX0_releaseInto_1 : decode cX0_releaseInto 1 = .ok (.istore_n 3, 1) := by decide +kernel
theorem dX0_releaseInto_2 : decode cX0_releaseInto 2 = .ok (.aload_n 0, 1) := by decide +kernel
theorem dX0_releaseInto_3 : decode cX0_releaseInto 3 = .ok (.getfield 26, 3) := by decide +kernel
theorem dX0_releaseInto_6 : decode cX0_releaseInto 6 = .ok (.istore 4, 2) := by decide +kernel
theorem dX0_releaseInto_8 : decode cX0_releaseInto 8 = .ok (.iload 4, 2) := by decide +kernel
theorem dX0_releaseInto_10 : decode cX0_releaseInto 10 = .ok (.ifCond .le 45, 3) := by decide +kernel
theorem dX0_releaseInto_13 : decode cX0_releaseInto 13 = .ok (.iload_n 3, 1) := by decide +kernel
theorem dX0_releaseInto_14 : decode cX0_releaseInto 14 = .ok (.ifCond .le 41, 3) := by decide +kernel
theorem dX0_releaseInto_17 : decode cX0_releaseInto 17 = .ok (.aload_n 0, 1) := by decide +kernel
theorem dX0_releaseInto_18 : decode cX0_releaseInto 18 = .ok (.getfield 15, 3) := by decide +kernel
theorem dX0_releaseInto_21 : decode cX0_releaseInto 21 = .ok (.aload_n 0, 1) := by decide +kernel
theorem dX0_releaseInto_22 : decode cX0_releaseInto 22 = .ok (.iconst 0, 1) := by decide +kernel
theorem dX0_releaseInto_23 : decode cX0_releaseInto 23 = .ok (.invokevirtual 36, 3) := by decide +kernel
theorem dX0_releaseInto_26 : decode cX0_releaseInto 26 = .ok (.iaload, 1) := by decide +kernel
theorem dX0_releaseInto_27 : decode cX0_releaseInto 27 = .ok (.istore 5, 2) := by decide +kernel
theorem dX0_releaseInto_29 : decode cX0_releaseInto 29 = .ok (.aload_n 0, 1) := by decide +kernel
theorem dX0_releaseInto_30 : decode cX0_releaseInto 30 = .ok (.iload_n 3, 1) := by decide +kernel
theorem dX0_releaseInto_31 : decode cX0_releaseInto 31 = .ok (.invokevirtual 57, 3) := by decide +kernel
theorem dX0_releaseInto_34 : decode cX0_releaseInto 34 = .ok (.istore 6, 2) := by decide +kernel
theorem dX0_releaseInto_36 : decode cX0_releaseInto 36 = .ok (.aload_n 1, 1) := by decide +kernel
theorem dX0_releaseInto_37 : decode cX0_releaseInto 37 = .ok (.iload 6, 2) := by decide +kernel
theorem dX0_releaseInto_39 : decode cX0_releaseInto 39 = .ok (.iload 5, 2) := by decide +kernel
theorem dX0_releaseInto_41 : decode cX0_releaseInto 41 = .ok (.invokevirtual 40, 3) := by decide +kernel
theorem dX0_releaseInto_44 : decode cX0_releaseInto 44 = .ok (.iload_n 3, 1) := by decide +kernel
theorem dX0_releaseInto_45 : decode cX0_releaseInto 45 = .ok (.iload 6, 2) := by decide +kernel
theorem dX0_releaseInto_47 : decode cX0_releaseInto 47 = .ok (.isub, 1) := by decide +kernel
theorem dX0_releaseInto_48 : decode cX0_releaseInto 48 = .ok (.istore_n 3, 1) := by decide +kernel
theorem dX0_releaseInto_49 : decode cX0_releaseInto 49 = .ok (.iinc 4 (-1), 3) := by decide +kernel
theorem dX0_releaseInto_52 : decode cX0_releaseInto 52 = .ok (.goto (-44), 3) := by decide +kernel
theorem dX0_releaseInto_55 : decode cX0_releaseInto 55 = .ok (.return_, 1) := by decide +kernel
theorem dX0_releaseOldest_0 : decode cX0_releaseOldest 0 = .ok (.aload_n 0, 1) := by decide +kernel
theorem dX0_releaseOldest_1 : decode cX0_releaseOldest 1 = .ok (.iconst 0, 1) := by decide +kernel
theorem dX0_releaseOldest_2 : decode cX0_releaseOldest 2 = .ok (.invokevirtual 36, 3) := by decide +kernel
theorem dX0_releaseOldest_5 : decode cX0_releaseOldest 5 = .ok (.istore_n 2, 1) := by decide +kernel
theorem dX0_releaseOldest_6 : decode cX0_releaseOldest 6 = .ok (.iload_n 1, 1) := by decide +kernel
theorem dX0_releaseOldest_7 : decode cX0_releaseOldest 7 = .ok (.aload_n 0, 1) := by decide +kernel
theorem dX0_releaseOldest_8 : decode cX0_releaseOldest 8 = .ok (.getfield 9, 3) := by decide +kernel
theorem dX0_releaseOldest_11 : decode cX0_releaseOldest 11 = .ok (.iload_n 2, 1) := by decide +kernel
theorem dX0_releaseOldest_12 : decode cX0_releaseOldest 12 = .ok (.iaload, 1) := by decide +kernel
theorem dX0_releaseOldest_13 : decode cX0_releaseOldest 13 = .ok (.invokestatic 60, 3) := by decide +kernel
theorem dX0_releaseOldest_16 : decode cX0_releaseOldest 16 = .ok (.istore_n 3, 1) := by decide +kernel
theorem dX0_releaseOldest_17 : decode cX0_releaseOldest 17 = .ok (.aload_n 0, 1) := by decide +kernel
theorem dX0_releaseOldest_18 : decode cX0_releaseOldest 18 = .ok (.getfield 9, 3) := by decide +kernel
theorem dX0_releaseOldest_21 : decode cX0_releaseOldest 21 = .ok (.iload_n 2, 1) := by decide +kernel
theorem dX0_releaseOldest_22 : decode cX0_releaseOldest 22 = .ok (.dup2, 1) := by decide +kernel
theorem dX0_releaseOldest_23 : decode cX0_releaseOldest 23 = .ok (.iaload, 1) := by decide +kernel
theorem dX0_releaseOldest_24 : decode cX0_releaseOldest 24 = .ok (.iload_n 3, 1) := by decide +kernel
theorem dX0_releaseOldest_25 : decode cX0_releaseOldest 25 = .ok (.isub, 1) := by decide +kernel
theorem dX0_releaseOldest_26 : decode cX0_releaseOldest 26 = .ok (.iastore, 1) := by decide +kernel
theorem dX0_releaseOldest_27 : decode cX0_releaseOldest 27 = .ok (.aload_n 0, 1) := by decide +kernel
theorem dX0_releaseOldest_28 : decode cX0_releaseOldest 28 = .ok (.dup, 1) := by decide +kernel
theorem dX0_releaseOldest_29 : decode cX0_releaseOldest 29 = .ok (.getfield 29, 3) := by decide +kernel
theorem dX0_releaseOldest_32 : decode cX0_releaseOldest 32 = .ok (.iload_n 3, 1) := by decide +kernel
theorem dX0_releaseOldest_33 : decode cX0_releaseOldest 33 = .ok (.i2l, 1) := by decide +kernel
theorem dX0_releaseOldest_34 : decode cX0_releaseOldest 34 = .ok (.aload_n 0, 1) := by decide +kernel
theorem dX0_releaseOldest_35 : decode cX0_releaseOldest 35 = .ok (.getfield 15, 3) := by decide +kernel
theorem dX0_releaseOldest_38 : decode cX0_releaseOldest 38 = .ok (.iload_n 2, 1) := by decide +kernel
theorem dX0_releaseOldest_39 : decode cX0_releaseOldest 39 = .ok (.iaload, 1) := by decide +kernel
theorem dX0_releaseOldest_40 : decode cX0_releaseOldest 40 = .ok (.i2l, 1) := by decide +kernel
theorem dX0_releaseOldest_41 : decode cX0_releaseOldest 41 = .ok (.lmul, 1) := by decide +kernel
theorem dX0_releaseOldest_42 : decode cX0_releaseOldest 42 = .ok (.lsub, 1) := by decide +kernel
theorem dX0_releaseOldest_43 : decode cX0_releaseOldest 43 = .ok (.putfield 29, 3) := by decide +kernel
theorem dX0_releaseOldest_46 : decode cX0_releaseOldest 46 = .ok (.aload_n 0, 1) := by decide +kernel
theorem dX0_releaseOldest_47 : decode cX0_releaseOldest 47 = .ok (.getfield 9, 3) := by decide +kernel
theorem dX0_releaseOldest_50 : decode cX0_releaseOldest 50 = .ok (.iload_n 2, 1) := by decide +kernel
theorem dX0_releaseOldest_51 : decode cX0_releaseOldest 51 = .ok (.iaload, 1) := by decide +kernel
theorem dX0_releaseOldest_52 : decode cX0_releaseOldest 52 = .ok (.ifCond .ne 22, 3) := by decide +kernel
theorem dX0_releaseOldest_55 : decode cX0_releaseOldest 55 = .ok (.aload_n 0, 1) := by decide +kernel
theorem dX0_releaseOldest_56 : decode cX0_releaseOldest 56 = .ok (.aload_n 0, 1) := by decide +kernel
theorem dX0_releaseOldest_57 : decode cX0_releaseOldest 57 = .ok (.iconst 1, 1) := by decide +kernel
theorem dX0_releaseOldest_58 : decode cX0_releaseOldest 58 = .ok (.invokevirtual 36, 3) := by decide +kernel
theorem dX0_releaseOldest_61 : decode cX0_releaseOldest 61 = .ok (.putfield 22, 3) := by decide +kernel
theorem dX0_releaseOldest_64 : decode cX0_releaseOldest 64 = .ok (.aload_n 0, 1) := by decide +kernel
theorem dX0_releaseOldest_65 : decode cX0_releaseOldest 65 = .ok (.dup, 1) := by decide +kernel
theorem dX0_releaseOldest_66 : decode cX0_releaseOldest 66 = .ok (.getfield 26, 3) := by decide +kernel
theorem dX0_releaseOldest_69 : decode cX0_releaseOldest 69 = .ok (.iconst 1, 1) := by decide +kernel
theorem dX0_releaseOldest_70 : decode cX0_releaseOldest 70 = .ok (.isub, 1) := by decide +kernel
theorem dX0_releaseOldest_71 : decode cX0_releaseOldest 71 = .ok (.putfield 26, 3) := by decide +kernel
theorem dX0_releaseOldest_74 : decode cX0_releaseOldest 74 = .ok (.iload_n 3, 1) := by decide +kernel
theorem dX0_releaseOldest_75 : decode cX0_releaseOldest 75 = .ok (.ireturn, 1) := by decide +kernel
theorem dX0_loadAbove_0 : decode cX0_loadAbove 0 = .ok (.lconst 0, 1) := by decide +kernel
theorem dX0_loadAbove_1 : decode cX0_loadAbove 1 = .ok (.lstore_n 2, 1) := by decide +kernel
theorem dX0_loadAbove_2 : decode cX0_loadAbove 2 = .ok (.iload_n 1, 1) := by decide +kernel
theorem dX0_loadAbove_3 : decode cX0_loadAbove 3 = .ok (.istore 4, 2) := by decide +kernel
theorem dX0_loadAbove_5 : decode cX0_loadAbove 5 = .ok (.iconst 0, 1) := by decide +kernel
theorem dX0_loadAbove_6 : decode cX0_loadAbove 6 = .ok (.istore 5, 2) := by decide +kernel
theorem dX0_loadAbove_8 : decode cX0_loadAbove 8 = .ok (.iload 5, 2) := by decide +kernel
theorem dX0_loadAbove_10 : decode cX0_loadAbove 10 = .ok (.aload_n 0, 1) := by decide +kernel
theorem dX0_loadAbove_11 : decode cX0_loadAbove 11 = .ok (.getfield 26, 3) := by decide +kernel
theorem dX0_loadAbove_14 : decode cX0_loadAbove 14 = .ok (.if_icmp .ge 58, 3) := by decide +kernel
theorem dX0_loadAbove_17 : decode cX0_loadAbove 17 = .ok (.iload 4, 2) := by decide +kernel
theorem dX0_loadAbove_19 : decode cX0_loadAbove 19 = .ok (.ifCond .le 53, 3) := by decide +kernel
theorem dX0_loadAbove_22 : decode cX0_loadAbove 22 = .ok (.aload_n 0, 1) := by decide +kernel
theorem dX0_loadAbove_23 : decode cX0_loadAbove 23 = .ok (.iload 5, 2) := by decide +kernel
theorem dX0_loadAbove_25 : decode cX0_loadAbove 25 = .ok (.invokevirtual 50, 3) := by decide +kernel
theorem dX0_loadAbove_28 : decode cX0_loadAbove 28 = .ok (.istore 6, 2) := by decide +kernel
theorem dX0_loadAbove_30 : decode cX0_loadAbove 30 = .ok (.iload 4, 2) := by decide +kernel
theorem dX0_loadAbove_32 : decode cX0_loadAbove 32 = .ok (.aload_n 0, 1) := by decide +kernel
theorem dX0_loadAbove_33 : decode cX0_loadAbove 33 = .ok (.getfield 9, 3) := by decide +kernel
theorem dX0_loadAbove_36 : decode cX0_loadAbove 36 = .ok (.iload 6, 2) := by decide +kernel
theorem dX0_loadAbove_38 : decode cX0_loadAbove 38 = .ok (.iaload, 1) := by decide +kernel
theorem dX0_loadAbove_39 : decode cX0_loadAbove 39 = .ok (.invokestatic 60, 3) := by decide +kernel
theorem dX0_loadAbove_42 : decode cX0_loadAbove 42 = .ok (.istore 7, 2) := by decide +kernel
theorem dX0_loadAbove_44 : decode cX0_loadAbove 44 = .ok (.lload_n 2, 1) := by decide +kernel
theorem dX0_loadAbove_45 : decode cX0_loadAbove 45 = .ok (.iload 7, 2) := by decide +kernel
theorem dX0_loadAbove_47 : decode cX0_loadAbove 47 = .ok (.i2l, 1) := by decide +kernel
theorem dX0_loadAbove_48 : decode cX0_loadAbove 48 = .ok (.aload_n 0, 1) := by decide +kernel
theorem dX0_loadAbove_49 : decode cX0_loadAbove 49 = .ok (.getfield 15, 3) := by decide +kernel
theorem dX0_loadAbove_52 : decode cX0_loadAbove 52 = .ok (.iload 6, 2) := by decide +kernel
theorem dX0_loadAbove_54 : decode cX0_loadAbove 54 = .ok (.iaload, 1) := by decide +kernel
theorem dX0_loadAbove_55 : decode cX0_loadAbove 55 = .ok (.i2l, 1) := by decide +kernel
theorem dX0_loadAbove_56 : decode cX0_loadAbove 56 = .ok (.lmul, 1) := by decide +kernel
theorem dX0_loadAbove_57 : decode cX0_loadAbove 57 = .ok (.ladd, 1) := by decide +kernel
theorem dX0_loadAbove_58 : decode cX0_loadAbove 58 = .ok (.lstore_n 2, 1) := by decide +kernel
theorem dX0_loadAbove_59 : decode cX0_loadAbove 59 = .ok (.iload 4, 2) := by decide +kernel
theorem dX0_loadAbove_61 : decode cX0_loadAbove 61 = .ok (.iload 7, 2) := by decide +kernel
theorem dX0_loadAbove_63 : decode cX0_loadAbove 63 = .ok (.isub, 1) := by decide +kernel
theorem dX0_loadAbove_64 : decode cX0_loadAbove 64 = .ok (.istore 4, 2) := by decide +kernel
theorem dX0_loadAbove_66 : decode cX0_loadAbove 66 = .ok (.iinc 5 1, 3) := by decide +kernel
theorem dX0_loadAbove_69 : decode cX0_loadAbove 69 = .ok (.goto (-61), 3) := by decide +kernel
theorem dX0_loadAbove_72 : decode cX0_loadAbove 72 = .ok (.lload_n 2, 1) := by decide +kernel
theorem dX0_loadAbove_73 : decode cX0_loadAbove 73 = .ok (.lreturn, 1) := by decide +kernel
theorem dX0_mixedLayers_0 : decode cX0_mixedLayers 0 = .ok (.lload_n 1, 1) := by decide +kernel
theorem dX0_mixedLayers_1 : decode cX0_mixedLayers 1 = .ok (.aload_n 0, 1) := by decide +kernel
theorem dX0_mixedLayers_2 : decode cX0_mixedLayers 2 = .ok (.getfield 26, 3) := by decide +kernel
theorem dX0_mixedLayers_5 : decode cX0_mixedLayers 5 = .ok (.i2l, 1) := by decide +kernel
theorem dX0_mixedLayers_6 : decode cX0_mixedLayers 6 = .ok (.invokestatic 63, 3) := by decide +kernel
theorem dX0_mixedLayers_9 : decode cX0_mixedLayers 9 = .ok (.lstore_n 1, 1) := by decide +kernel
theorem dX0_mixedLayers_10 : decode cX0_mixedLayers 10 = .ok (.iconst 0, 1) := by decide +kernel
theorem dX0_mixedLayers_11 : decode cX0_mixedLayers 11 = .ok (.istore_n 3, 1) := by decide +kernel
theorem dX0_mixedLayers_12 : decode cX0_mixedLayers 12 = .ok (.iload_n 3, 1) := by decide +kernel
theorem dX0_mixedLayers_13 : decode cX0_mixedLayers 13 = .ok (.aload_n 0, 1) := by decide +kernel
theorem dX0_mixedLayers_14 : decode cX0_mixedLayers 14 = .ok (.getfield 26, 3) := by decide +kernel
theorem dX0_mixedLayers_17 : decode cX0_mixedLayers 17 = .ok (.if_icmp .ge 42, 3) := by decide +kernel
theorem dX0_mixedLayers_20 : decode cX0_mixedLayers 20 = .ok (.aload_n 0, 1) := by decide +kernel
theorem dX0_mixedLayers_21 : decode cX0_mixedLayers 21 = .ok (.iload_n 3, 1) := by decide +kernel
theorem dX0_mixedLayers_22 : decode cX0_mixedLayers 22 = .ok (.invokevirtual 50, 3) := by decide +kernel
theorem dX0_mixedLayers_25 : decode cX0_mixedLayers 25 = .ok (.istore 4, 2) := by decide +kernel
theorem dX0_mixedLayers_27 : decode cX0_mixedLayers 27 = .ok (.lload_n 1, 1) := by decide +kernel
theorem dX0_mixedLayers_28 : decode cX0_mixedLayers 28 = .ok (.aload_n 0, 1) := by decide +kernel
theorem dX0_mixedLayers_29 : decode cX0_mixedLayers 29 = .ok (.getfield 9, 3) := by decide +kernel
theorem dX0_mixedLayers_32 : decode cX0_mixedLayers 32 = .ok (.iload 4, 2) := by decide +kernel
theorem dX0_mixedLayers_34 : decode cX0_mixedLayers 34 = .ok (.iaload, 1) := by decide +kernel
theorem dX0_mixedLayers_35 : decode cX0_mixedLayers 35 = .ok (.i2l, 1) := by decide +kernel
theorem dX0_mixedLayers_36 : decode cX0_mixedLayers 36 = .ok (.invokestatic 63, 3) := by decide +kernel
theorem dX0_mixedLayers_39 : decode cX0_mixedLayers 39 = .ok (.lstore_n 1, 1) := by decide +kernel
theorem dX0_mixedLayers_40 : decode cX0_mixedLayers 40 = .ok (.lload_n 1, 1) := by decide +kernel
theorem dX0_mixedLayers_41 : decode cX0_mixedLayers 41 = .ok (.aload_n 0, 1) := by decide +kernel
theorem dX0_mixedLayers_42 : decode cX0_mixedLayers 42 = .ok (.getfield 15, 3) := by decide +kernel
theorem dX0_mixedLayers_45 : decode cX0_mixedLayers 45 = .ok (.iload 4, 2) := by decide +kernel
theorem dX0_mixedLayers_47 : decode cX0_mixedLayers 47 = .ok (.iaload, 1) := by decide +kernel
theorem dX0_mixedLayers_48 : decode cX0_mixedLayers 48 = .ok (.i2l, 1) := by decide +kernel
theorem dX0_mixedLayers_49 : decode cX0_mixedLayers 49 = .ok (.invokestatic 63, 3) := by decide +kernel
theorem dX0_mixedLayers_52 : decode cX0_mixedLayers 52 = .ok (.lstore_n 1, 1) := by decide +kernel
theorem dX0_mixedLayers_53 : decode cX0_mixedLayers 53 = .ok (.iinc 3 1, 3) := by decide +kernel
theorem dX0_mixedLayers_56 : decode cX0_mixedLayers 56 = .ok (.goto (-44), 3) := by decide +kernel
theorem dX0_mixedLayers_59 : decode cX0_mixedLayers 59 = .ok (.lload_n 1, 1) := by decide +kernel
theorem dX0_mixedLayers_60 : decode cX0_mixedLayers 60 = .ok (.lreturn, 1) := by decide +kernel
theorem dX1_init_0 : decode cX1_init 0 = .ok (.aload_n 0, 1) := by decide +kernel
theorem dX1_init_1 : decode cX1_init 1 = .ok (.invokespecial 3, 3) := by decide +kernel
theorem dX1_init_4 : decode cX1_init 4 = .ok (.aload_n 0, 1) := by decide +kernel
theorem dX1_init_5 : decode cX1_init 5 = .ok (.sipush 1000, 3) := by decide +kernel
theorem dX1_init_8 : decode cX1_init 8 = .ok (.putfield 9, 3) := by decide +kernel
theorem dX1_init_11 : decode cX1_init 11 = .ok (.aload_n 0, 1) := by decide +kernel
theorem dX1_init_12 : decode cX1_init 12 = .ok (.bipush 9, 2) := by decide +kernel
theorem dX1_init_14 : decode cX1_init 14 = .ok (.putfield 15, 3) := by decide +kernel
theorem dX1_init_17 : decode cX1_init 17 = .ok (.aload_n 0, 1) := by decide +kernel
theorem dX1_init_18 : decode cX1_init 18 = .ok (.bipush 25, 2) := by decide +kernel
theorem dX1_init_20 : decode cX1_init 20 = .ok (.putfield 18, 3) := by decide +kernel
theorem dX1_init_23 : decode cX1_init 23 = .ok (.aload_n 0, 1) := by decide +kernel
theorem dX1_init_24 : decode cX1_init 24 = .ok (.sipush 400, 3) := by decide +kernel
theorem dX1_init_27 : decode cX1_init 27 = .ok (.putfield 21, 3) := by decide +kernel
theorem dX1_init_30 : decode cX1_init 30 = .ok (.aload_n 0, 1) := by decide +kernel
theorem dX1_init_31 : decode cX1_init 31 = .ok (.sipush 1200, 3) := by decide +kernel
theorem dX1_init_34 : decode cX1_init 34 = .ok (.putfield 24, 3) := by decide +kernel
theorem dX1_init_37 : decode cX1_init 37 = .ok (.aload_n 0, 1) := by decide +kernel
theorem dX1_init_38 : decode cX1_init 38 = .ok (.iconst 0, 1) := by decide +kernel
theorem dX1_init_39 : decode cX1_init 39 = .ok (.putfield 27, 3) := by decide +kernel
theorem dX1_init_42 : decode cX1_init 42 = .ok (.aload_n 0, 1) := by decide +kernel
theorem dX1_init_43 : decode cX1_init 43 = .ok (.sipush 2000, 3) := by decide +kernel
theorem dX1_init_46 : decode cX1_init 46 = .ok (.putfield 30, 3) := by decide +kernel
theorem dX1_init_49 : decode cX1_init 49 = .ok (.aload_n 0, 1) := by decide +kernel
theorem dX1_init_50 : decode cX1_init 50 = .ok (.sipush 8000, 3) := by decide +kernel
theorem dX1_init_53 : decode cX1_init 53 = .ok (.putfield 33, 3) := by decide +kernel
theorem dX1_init_56 : decode cX1_init 56 = .ok (.aload_n 0, 1) := by decide +kernel
theorem dX1_init_57 : decode cX1_init 57 = .ok (.new 36, 3) := by decide +kernel
theorem dX1_init_60 : decode cX1_init 60 = .ok (.dup, 1) := by decide +kernel
theorem dX1_init_61 : decode cX1_init 61 = .ok (.iconst 1, 1) := by decide +kernel
theorem dX1_init_62 : decode cX1_init 62 = .ok (.invokespecial 38, 3) := by decide +kernel
theorem dX1_init_65 : decode cX1_init 65 = .ok (.putfield 41, 3) := by decide +kernel
theorem dX1_init_68 : decode cX1_init 68 = .ok (.aload_n 0, 1) := by decide +kernel
theorem dX1_init_69 : decode cX1_init 69 = .ok (.new 36, 3) := by decide +kernel
theorem dX1_init_72 : decode cX1_init 72 = .ok (.dup, 1) := by decide +kernel
theorem dX1_init_73 : decode cX1_init 73 = .ok (.iconst 0, 1) := by decide +kernel
theorem dX1_init_74 : decode cX1_init 74 = .ok (.invokespecial 38, 3) := by decide +kernel
theorem dX1_init_77 : decode cX1_init 77 = .ok (.putfield 45, 3) := by decide +kernel
theorem dX1_init_80 : decode cX1_init 80 = .ok (.aload_n 0, 1) := by decide +kernel
theorem dX1_init_81 : decode cX1_init 81 = .ok (.invokevirtual 48, 3) := by decide +kernel
theorem dX1_init_84 : decode cX1_init 84 = .ok (.return_, 1) := by decide +kernel
theorem dX1_startAnew_0 : decode cX1_startAnew 0 = .ok (.aload_n 0, 1) := by decide +kernel
theorem dX1_startAnew_1 : decode cX1_startAnew 1 = .ok (.getfield 41, 3) := by decide +kernel
theorem dX1_startAnew_4 : decode cX1_startAnew 4 = .ok (.invokevirtual 51, 3) := by decide +kernel
theorem dX1_startAnew_7 : decode cX1_startAnew 7 = .ok (.aload_n 0, 1) := by decide +kernel
theorem dX1_startAnew_8 : decode cX1_startAnew 8 = .ok (.getfield 41, 3) := by decide +kernel
theorem dX1_startAnew_11 : decode cX1_startAnew 11 = .ok (.aload_n 0, 1) := by decide +kernel
theorem dX1_startAnew_12 : decode cX1_startAnew 12 = .ok (.invokevirtual 54, 3) := by decide +kernel
theorem dX1_startAnew_15 : decode cX1_startAnew 15 = .ok (.aload_n 0, 1) := by decide +kernel
theorem dX1_startAnew_16 : decode cX1_startAnew 16 = .ok (.getfield 24, 3) := by decide +kernel
theorem dX1_startAnew_19 : decode cX1_startAnew 19 = .ok (.invokevirtual 58, 3) := by decide +kernel
theorem dX1_startAnew_22 : decode cX1_startAnew 22 = .ok (.aload_n 0, 1) := by decide +kernel
theorem dX1_startAnew_23 : decode cX1_startAnew 23 = .ok (.getfield 45, 3) := by decide +kernel
theorem dX1_startAnew_26 : decode cX1_startAnew 26 = .ok (.invokevirtual 51, 3) := by decide +kernel
theorem dX1_startAnew_29 : decode cX1_startAnew 29 = .ok (.aload_n 0, 1) := by decide +kernel
theorem dX1_startAnew_30 : decode cX1_startAnew 30 = .ok (.getfield 45, 3) := by decide +kernel
theorem dX1_startAnew_33 : decode cX1_startAnew 33 = .ok (.aload_n 0, 1) := by decide +kernel
theorem dX1_startAnew_34 : decode cX1_startAnew 34 = .ok (.invokevirtual 62, 3) := by decide +kernel
theorem dX1_startAnew_37 : decode cX1_startAnew 37 = .ok (.aload_n 0, 1) := by decide +kernel
theorem dX1_startAnew_38 : decode cX1_startAnew 38 = .ok (.getfield 24, 3) := by decide +kernel
theorem dX1_startAnew_41 : decode cX1_startAnew 41 = .ok (.invokevirtual 58, 3) := by decide +kernel
theorem dX1_startAnew_44 : decode cX1_startAnew 44 = .ok (.aload_n 0, 1) := by decide +kernel
theorem dX1_startAnew_45 : decode cX1_startAnew 45 = .ok (.iconst 0, 1) := by decide +kernel
theorem dX1_startAnew_46 : decode cX1_startAnew 46 = .ok (.putfield 65, 3) := by decide +kernel
theorem dX1_startAnew_49 : decode cX1_startAnew 49 = .ok (.aload_n 0, 1) := by decide +kernel
theorem dX1_startAnew_50 : decode cX1_startAnew 50 = .ok (.iconst 0, 1) := by decide +kernel
theorem dX1_startAnew_51 : decode cX1_startAnew 51 = .ok (.putfield 68, 3) := by decide +kernel
theorem dX1_startAnew_54 : decode cX1_startAnew 54 = .ok (.aload_n 0, 1) := by decide +kernel
theorem dX1_startAnew_55 : decode cX1_startAnew 55 = .ok (.iconst 0, 1) := by decide +kernel
theorem dX1_startAnew_56 : decode cX1_startAnew 56 = .ok (.putfield 71, 3) := by decide +kernel
theorem dX1_startAnew_59 : decode cX1_startAnew 59 = .ok (.return_, 1) := by decide +kernel
theorem dX1_copyFrom_0 : decode cX1_copyFrom 0 = .ok (.aload_n 0, 1) := by decide +kernel
theorem dX1_copyFrom_1 : decode cX1_copyFrom 1 = .ok (.aload_n 1, 1) := by decide +kernel
theorem dX1_copyFrom_2 : decode cX1_copyFrom 2 = .ok (.getfield 9, 3) := by decide +kernel
theorem dX1_copyFrom_5 : decode cX1_copyFrom 5 = .ok (.putfield 9, 3) := by decide +kernel
theorem dX1_copyFrom_8 : decode cX1_copyFrom 8 = .ok (.aload_n 0, 1) := by decide +kernel
theorem dX1_copyFrom_9 : decode cX1_copyFrom 9 = .ok (.aload_n 1, 1) := by decide +kernel
theorem dX1_copyFrom_10 : decode cX1_copyFrom 10 = .ok (.getfield 15, 3) := by decide +kernel
theorem dX1_copyFrom_13 : decode cX1_copyFrom 13 = .ok (.putfield 15, 3) := by decide +kernel
theorem dX1_copyFrom_16 : decode cX1_copyFrom 16 = .ok (.aload_n 0, 1) := by decide +kernel
theorem dX1_copyFrom_17 : decode cX1_copyFrom 17 = .ok (.aload_n 1, 1) := by decide +kernel
theorem dX1_copyFrom_18 : decode cX1_copyFrom 18 = .ok (.getfield 18, 3) := by decide +kernel
theorem dX1_copyFrom_21 : decode cX1_copyFrom 21 = .ok (.putfield 18, 3) := by decide +kernel
theorem dX1_copyFrom_24 : decode cX1_copyFrom 24 = .ok (.aload_n 0, 1) := by decide +kernel
theorem dX1_copyFrom_25 : decode cX1_copyFrom 25 = .ok (.aload_n 1, 1) := by decide +kernel
theorem dX1_copyFrom_26 : decode cX1_copyFrom 26 = .ok (.getfield 21, 3) := by decide +kernel
theorem dX1_copyFrom_29 : decode cX1_copyFrom 29 = .ok (.putfield 21, 3) := by decide +kernel
theorem dX1_copyFrom_32 : decode cX1_copyFrom 32 = .ok (.aload_n 0, 1) := by decide +kernel
theorem dX1_copyFrom_33 : decode cX1_copyFrom 33 = .ok (.aload_n 1, 1) := by decide +kernel
theorem dX1_copyFrom_34 : decode cX1_copyFrom 34 = .ok (.getfield 24, 3) := by decide +kernel
theorem dX1_copyFrom_37 : decode cX1_copyFrom 37 = .ok (.putfield 24, 3) := by decide +kernel
theorem dX1_copyFrom_40 : decode cX1_copyFrom 40 = .ok (.aload_n 0, 1) := by decide +kernel
theorem dX1_copyFrom_41 : decode cX1_copyFrom 41 = .ok (.aload_n 1, 1) := by decide +kernel
theorem dX1_copyFrom_42 : decode cX1_copyFrom 42 = .ok (.getfield 27, 3) := by decide +kernel
theorem dX1_copyFrom_45 : decode cX1_copyFrom 45 = .ok (.putfield 27, 3) := by decide +kernel
theorem dX1_copyFrom_48 : decode cX1_copyFrom 48 = .ok (.aload_n 0, 1) := by decide +kernel
theorem dX1_copyFrom_49 : decode cX1_copyFrom 49 = .ok (.aload_n 1, 1) := by decide +kernel
theorem dX1_copyFrom_50 : decode cX1_copyFrom 50 = .ok (.getfield 30, 3) := by decide +kernel
theorem dX1_copyFrom_53 : decode cX1_copyFrom 53 = .ok (.putfield 30, 3) := by decide +kernel
theorem dX1_copyFrom_56 : decode cX1_copyFrom 56 = .ok (.aload_n 0, 1) := by decide +kernel
theorem dX1_copyFrom_57 : decode cX1_copyFrom 57 = .ok (.aload_n 1, 1) := by decide +kernel
theorem dX1_copyFrom_58 : decode cX1_copyFrom 58 = .ok (.getfield 33, 3) := by decide +kernel
theorem dX1_copyFrom_61 : decode cX1_copyFrom 61 = .ok (.putfield 33, 3) := by decide +kernel
theorem dX1_copyFrom_64 : decode cX1_copyFrom 64 = .ok (.aload_n 0, 1) := by decide +kernel
theorem dX1_copyFrom_65 : decode cX1_copyFrom 65 = .ok (.aload_n 1, 1) := by decide +kernel
theorem dX1_copyFrom_66 : decode cX1_copyFrom 66 = .ok (.getfield 65, 3) := by decide +kernel
theorem dX1_copyFrom_69 : decode cX1_copyFrom 69 = .ok (.putfield 65, 3) := by decide +kernel
theorem dX1_copyFrom_72 : decode cX1_copyFrom 72 = .ok (.aload_n 0, 1) := by decide +kernel
theorem dX1_copyFrom_73 : decode cX1_copyFrom 73 = .ok (.aload_n 1, 1) := by decide +kernel
theorem dX1_copyFrom_74 : decode cX1_copyFrom 74 = .ok (.getfield 68, 3) := by decide +kernel
theorem dX1_copyFrom_77 : decode cX1_copyFrom 77 = .ok (.putfield 68, 3) := by decide +kernel
theorem dX1_copyFrom_80 : decode cX1_copyFrom 80 = .ok (.aload_n 0, 1) := by decide +kernel
theorem dX1_copyFrom_81 : decode cX1_copyFrom 81 = .ok (.aload_n 1, 1) := by decide +kernel
theorem dX1_copyFrom_82 : decode cX1_copyFrom 82 = .ok (.getfield 71, 3) := by decide +kernel
theorem dX1_copyFrom_85 : decode cX1_copyFrom 85 = .ok (.putfield 71, 3) := by decide +kernel
theorem dX1_copyFrom_88 : decode cX1_copyFrom 88 = .ok (.aload_n 0, 1) := by decide +kernel
theorem dX1_copyFrom_89 : decode cX1_copyFrom 89 = .ok (.getfield 41, 3) := by decide +kernel
theorem dX1_copyFrom_92 : decode cX1_copyFrom 92 = .ok (.aload_n 1, 1) := by decide +kernel
theorem dX1_copyFrom_93 : decode cX1_copyFrom 93 = .ok (.getfield 41, 3) := by decide +kernel
theorem dX1_copyFrom_96 : decode cX1_copyFrom 96 = .ok (.invokevirtual 74, 3) := by decide +kernel
theorem dX1_copyFrom_99 : decode cX1_copyFrom 99 = .ok (.aload_n 0, 1) := by decide +kernel
theorem dX1_copyFrom_100 : decode cX1_copyFrom 100 = .ok (.getfield 45, 3) := by decide +kernel
theorem dX1_copyFrom_103 : decode cX1_copyFrom 103 = .ok (.aload_n 1, 1) := by decide +kernel
theorem dX1_copyFrom_104 : decode cX1_copyFrom 104 = .ok (.getfield 45, 3) := by decide +kernel
theorem dX1_copyFrom_107 : decode cX1_copyFrom 107 = .ok (.invokevirtual 74, 3) := by decide +kernel
theorem dX1_copyFrom_110 : decode cX1_copyFrom 110 = .ok (.return_, 1) := by decide +kernel
theorem dX1_pipeVolume_0 : decode cX1_pipeVolume 0 = .ok (.aload_n 0, 1) := by decide +kernel
theorem dX1_pipeVolume_1 : decode cX1_pipeVolume 1 = .ok (.getfield 9, 3) := by decide +kernel
theorem dX1_pipeVolume_4 : decode cX1_pipeVolume 4 = .ok (.aload_n 0, 1) := by decide +kernel
theorem dX1_pipeVolume_5 : decode cX1_pipeVolume 5 = .ok (.getfield 15, 3) := by decide +kernel
theorem dX1_pipeVolume_8 : decode cX1_pipeVolume 8 = .ok (.imul, 1) := by decide +kernel
theorem dX1_pipeVolume_9 : decode cX1_pipeVolume 9 = .ok (.ireturn, 1) := by decide +kernel
theorem dX1_annulusVolume_0 : decode cX1_annulusVolume 0 = .ok (.aload_n 0, 1) := by decide +kernel
theorem dX1_annulusVolume_1 : decode cX1_annulusVolume 1 = .ok (.getfield 9, 3) := by decide +kernel
theorem dX1_annulusVolume_4 : decode cX1_annulusVolume 4 = .ok (.aload_n 0, 1) := by decide +kernel
theorem dX1_annulusVolume_5 : decode cX1_annulusVolume 5 = .ok (.getfield 18, 3) := by decide +kernel
theorem dX1_annulusVolume_8 : decode cX1_annulusVolume 8 = .ok (.imul, 1) := by decide +kernel
theorem dX1_annulusVolume_9 : decode cX1_annulusVolume 9 = .ok (.ireturn, 1) := by decide +kernel
theorem dX1_column_0 : decode cX1_column 0 = .ok (.iload_n 1, 1) := by decide +kernel
theorem dX1_column_1 : decode cX1_column 1 = .ok (.ifCond .ne 10, 3) := by decide +kernel
theorem dX1_column_4 : decode cX1_column 4 = .ok (.aload_n 0, 1) := by decide +kernel
theorem dX1_column_5 : decode cX1_column 5 = .ok (.getfield 41, 3) := by decide +kernel
theorem dX1_column_8 : decode cX1_column 8 = .ok (.goto 7, 3) := by decide +kernel
theorem dX1_column_11 : decode cX1_column 11 = .ok (.aload_n 0, 1) := by decide +kernel
theorem dX1_column_12 : decode cX1_column 12 = .ok (.getfield 45, 3) := by decide +kernel
theorem dX1_column_15 : decode cX1_column 15 = .ok (.areturn, 1) := by decide +kernel
theorem dX1_capacity_0 : decode cX1_capacity 0 = .ok (.iload_n 1, 1) := by decide +kernel
theorem dX1_capacity_1 : decode cX1_capacity 1 = .ok (.ifCond .ne 10, 3) := by decide +kernel
theorem dX1_capacity_4 : decode cX1_capacity 4 = .ok (.aload_n 0, 1) := by decide +kernel
theorem dX1_capacity_5 : decode cX1_capacity 5 = .ok (.getfield 15, 3) := by decide +kernel
theorem dX1_capacity_8 : decode cX1_capacity 8 = .ok (.goto 7, 3) := by decide +kernel
theorem dX1_capacity_11 : decode cX1_capacity 11 = .ok (.aload_n 0, 1) := by decide +kernel
theorem dX1_capacity_12 : decode cX1_capacity 12 = .ok (.getfield 18, 3) := by decide +kernel
theorem dX1_capacity_15 : decode cX1_capacity 15 = .ok (.ireturn, 1) := by decide +kernel
theorem dX1_canCirculate_0 : decode cX1_canCirculate 0 = .ok (.iload_n 1, 1) := by decide +kernel
theorem dX1_canCirculate_1 : decode cX1_canCirculate 1 = .ok (.aload_n 0, 1) := by decide +kernel
theorem dX1_canCirculate_2 : decode cX1_canCirculate 2 = .ok (.invokevirtual 54, 3) := by decide +kernel
theorem dX1_canCirculate_5 : decode cX1_canCirculate 5 = .ok (.if_icmp .gt 15, 3) := by decide +kernel
theorem dX1_canCirculate_8 : decode cX1_canCirculate 8 = .ok (.iload_n 1, 1) := by decide +kernel
theorem dX1_canCirculate_9 : decode cX1_canCirculate 9 = .ok (.aload_n 0, 1) := by decide +kernel
theorem dX1_canCirculate_10 : decode cX1_canCirculate 10 = .ok (.invokevirtual 62, 3) := by decide +kernel
theorem dX1_canCirculate_13 : decode cX1_canCirculate 13 = .ok (.if_icmp .gt 7, 3) := by decide +kernel
theorem dX1_canCirculate_16 : decode cX1_canCirculate 16 = .ok (.iconst 1, 1) := by decide +kernel
theorem dX1_canCirculate_17 : decode cX1_canCirculate 17 = .ok (.goto 4, 3) := by decide +kernel
theorem dX1_canCirculate_20 : decode cX1_canCirculate 20 = .ok (.iconst 0, 1) := by decide +kernel
theorem dX1_canCirculate_21 : decode cX1_canCirculate 21 = .ok (.ireturn, 1) := by decide +kernel
theorem dX1_circulate_0 : decode cX1_circulate 0 = .ok (.aload_n 0, 1) := by decide +kernel
theorem dX1_circulate_1 : decode cX1_circulate 1 = .ok (.getfield 45, 3) := by decide +kernel
theorem dX1_circulate_4 : decode cX1_circulate 4 = .ok (.iload_n 1, 1) := by decide +kernel
theorem dX1_circulate_5 : decode cX1_circulate 5 = .ok (.invokevirtual 78, 3) := by decide +kernel
theorem dX1_circulate_8 : decode cX1_circulate 8 = .ok (.aload_n 0, 1) := by decide +kernel
theorem dX1_circulate_9 : decode cX1_circulate 9 = .ok (.getfield 41, 3) := by decide +kernel
theorem dX1_circulate_12 : decode cX1_circulate 12 = .ok (.aload_n 0, 1) := by decide +kernel
theorem dX1_circulate_13 : decode cX1_circulate 13 = .ok (.getfield 45, 3) := by decide +kernel
theorem dX1_circulate_16 : decode cX1_circulate 16 = .ok (.iload_n 1, 1) := by decide +kernel
theorem dX1_circulate_17 : decode cX1_circulate 17 = .ok (.invokevirtual 82, 3) := by decide +kernel
theorem dX1_circulate_20 : decode cX1_circulate 20 = .ok (.aload_n 0, 1) := by decide +kernel
theorem dX1_circulate_21 : decode cX1_circulate 21 = .ok (.getfield 41, 3) := by decide +kernel
theorem dX1_circulate_24 : decode cX1_circulate 24 = .ok (.iload_n 1, 1) := by decide +kernel
theorem dX1_circulate_25 : decode cX1_circulate 25 = .ok (.iload_n 2, 1) := by decide +kernel
theorem dX1_circulate_26 : decode cX1_circulate 26 = .ok (.invokevirtual 58, 3) := by decide +kernel
theorem dX1_circulate_29 : decode cX1_circulate 29 = .ok (.return_, 1) := by decide +kernel
theorem dX1_circulateInSteps_0 : decode cX1_circulateInSteps 0 = .ok (.iload_n 1, 1) := by decide +kernel
theorem dX1_circulateInSteps_1 : decode cX1_circulateInSteps 1 = .ok (.iload_n 2, 1) := by decide +kernel
theorem dX1_circulateInSteps_2 : decode cX1_circulateInSteps 2 = .ok (.invokestatic 86, 3) := by decide +kernel
theorem dX1_circulateInSteps_5 : decode cX1_circulateInSteps 5 = .ok (.istore 4, 2) := by decide +kernel
theorem dX1_circulateInSteps_7 : decode cX1_circulateInSteps 7 = .ok (.iconst 0, 1) := by decide +kernel
theorem dX1_circulateInSteps_8 : decode cX1_circulateInSteps 8 = .ok (.istore 5, 2) := by decide +kernel
theorem dX1_circulateInSteps_10 : decode cX1_circulateInSteps 10 = .ok (.iload 5, 2) := by decide +kernel
theorem dX1_circulateInSteps_12 : decode cX1_circulateInSteps 12 = .ok (.iload 4, 2) := by decide +kernel
theorem dX1_circulateInSteps_14 : decode cX1_circulateInSteps 14 = .ok (.if_icmp .ge 19, 3) := by decide +kernel
theorem dX1_circulateInSteps_17 : decode cX1_circulateInSteps 17 = .ok (.aload_n 0, 1) := by decide +kernel
theorem dX1_circulateInSteps_18 : decode cX1_circulateInSteps 18 = .ok (.iload_n 2, 1) := by decide +kernel
theorem dX1_circulateInSteps_19 : decode cX1_circulateInSteps 19 = .ok (.iload_n 3, 1) := by decide +kernel
theorem dX1_circulateInSteps_20 : decode cX1_circulateInSteps 20 = .ok (.invokevirtual 90, 3) := by decide +kernel
theorem dX1_circulateInSteps_23 : decode cX1_circulateInSteps 23 = .ok (.aload_n 0, 1) := by decide +kernel
theorem dX1_circulateInSteps_24 : decode cX1_circulateInSteps 24 = .ok (.invokevirtual 93, 3) := by decide +kernel
theorem dX1_circulateInSteps_27 : decode cX1_circulateInSteps 27 = .ok (.iinc 5 1, 3) := by decide +kernel
theorem dX1_circulateInSteps_30 : decode cX1_circulateInSteps 30 = .ok (.goto (-20), 3) := by decide +kernel
theorem dX1_circulateInSteps_33 : decode cX1_circulateInSteps 33 = .ok (.return_, 1) := by decide +kernel
theorem dX1_letIn_0 : decode cX1_letIn 0 = .ok (.aload_n 0, 1) := by decide +kernel
theorem dX1_letIn_1 : decode cX1_letIn 1 = .ok (.getfield 45, 3) := by decide +kernel
theorem dX1_letIn_4 : decode cX1_letIn 4 = .ok (.iload_n 1, 1) := by decide +kernel
theorem dX1_letIn_5 : decode cX1_letIn 5 = .ok (.invokevirtual 78, 3) := by decide +kernel
theorem dX1_letIn_8 : decode cX1_letIn 8 = .ok (.aload_n 0, 1) := by decide +kernel
theorem dX1_letIn_9 : decode cX1_letIn 9 = .ok (.getfield 45, 3) := by decide +kernel
theorem dX1_letIn_12 : decode cX1_letIn 12 = .ok (.iload_n 1, 1) := by decide +kernel
theorem dX1_letIn_13 : decode cX1_letIn 13 = .ok (.iload_n 2, 1) := by decide +kernel
theorem dX1_letIn_14 : decode cX1_letIn 14 = .ok (.invokevirtual 58, 3) := by decide +kernel
theorem dX1_letIn_17 : decode cX1_letIn 17 = .ok (.aload_n 0, 1) := by decide +kernel
theorem dX1_letIn_18 : decode cX1_letIn 18 = .ok (.dup, 1) := by decide +kernel
theorem dX1_letIn_19 : decode cX1_letIn 19 = .ok (.getfield 65, 3) := by decide +kernel
theorem dX1_letIn_22 : decode cX1_letIn 22 = .ok (.iload_n 1, 1) := by decide +kernel
theorem dX1_letIn_23 : decode cX1_letIn 23 = .ok (.iadd, 1) := by decide +kernel
theorem dX1_letIn_24 : decode cX1_letIn 24 = .ok (.putfield 65, 3) := by decide +kernel
theorem dX1_letIn_27 : decode cX1_letIn 27 = .ok (.return_, 1) := by decide +kernel
theorem dX1_checkShoe_0 : decode cX1_checkShoe 0 = .ok (.aload_n 0, 1) := by decide +kernel
theorem dX1_checkShoe_1 : decode cX1_checkShoe 1 = .ok (.invokevirtual 96, 3) := by decide +kernel
theorem dX1_checkShoe_4 : decode cX1_checkShoe 4 = .ok (.istore_n 1, 1) := by decide +kernel
theorem dX1_checkShoe_5 : decode cX1_checkShoe 5 = .ok (.iload_n 1, 1) := by decide +kernel
theorem dX1_checkShoe_6 : decode cX1_checkShoe 6 = .ok (.aload_n 0, 1) := by decide +kernel
theorem dX1_checkShoe_7 : decode cX1_checkShoe 7 = .ok (.getfield 33, 3) := by decide +kernel
theorem dX1_checkShoe_10 : decode cX1_checkShoe 10 = .ok (.if_icmp .le 13, 3) := by decide +kernel
theorem dX1_checkShoe_13 : decode cX1_checkShoe 13 = .ok (.aload_n 0, 1) := by decide +kernel
theorem dX1_checkShoe_14 : decode cX1_checkShoe 14 = .ok (.dup, 1) := by decide +kernel
theorem dX1_checkShoe_15 : decode cX1_checkShoe 15 = .ok (.getfield 68, 3) := by decide +kernel
theorem dX1_checkShoe_18 : decode cX1_checkShoe 18 = .ok (.iconst 1, 1) := by decide +kernel
theorem dX1_checkShoe_19 : decode cX1_checkShoe 19 = .ok (.iadd, 1) := by decide +kernel
theorem dX1_checkShoe_20 : decode cX1_checkShoe 20 = .ok (.putfield 68, 3) := by decide +kernel
theorem dX1_checkShoe_23 : decode cX1_checkShoe 23 = .ok (.aload_n 0, 1) := by decide +kernel
theorem dX1_checkShoe_24 : decode cX1_checkShoe 24 = .ok (.aload_n 0, 1) := by decide +kernel
theorem dX1_checkShoe_25 : decode cX1_checkShoe 25 = .ok (.getfield 71, 3) := by decide +kernel
theorem dX1_checkShoe_28 : decode cX1_checkShoe 28 = .ok (.iload_n 1, 1) := by decide +kernel
theorem dX1_checkShoe_29 : decode cX1_checkShoe 29 = .ok (.invokestatic 99, 3) := by decide +kernel
theorem dX1_checkShoe_32 : decode cX1_checkShoe 32 = .ok (.putfield 71, 3) := by decide +kernel
theorem dX1_checkShoe_35 : decode cX1_checkShoe 35 = .ok (.return_, 1) := by decide +kernel
theorem dX1_pressureOfWhole_0 : decode cX1_pressureOfWhole 0 = .ok (.aload_n 0, 1) := by decide +kernel
theorem dX1_pressureOfWhole_1 : decode cX1_pressureOfWhole 1 = .ok (.iload_n 1, 1) := by decide +kernel
theorem dX1_pressureOfWhole_2 : decode cX1_pressureOfWhole 2 = .ok (.invokevirtual 104, 3) := by decide +kernel
theorem dX1_pressureOfWhole_5 : decode cX1_pressureOfWhole 5 = .ok (.getfield 108, 3) := by decide +kernel
theorem dX1_pressureOfWhole_8 : decode cX1_pressureOfWhole 8 = .ok (.aload_n 0, 1) := by decide +kernel
theorem dX1_pressureOfWhole_9 : decode cX1_pressureOfWhole 9 = .ok (.iload_n 1, 1) := by decide +kernel
theorem dX1_pressureOfWhole_10 : decode cX1_pressureOfWhole 10 = .ok (.invokevirtual 112, 3) := by decide +kernel
theorem dX1_pressureOfWhole_13 : decode cX1_pressureOfWhole 13 = .ok (.invokestatic 116, 3) := by decide +kernel
theorem dX1_pressureOfWhole_16 : decode cX1_pressureOfWhole 16 = .ok (.ireturn, 1) := by decide +kernel
theorem dX1_pressureOfPart_0 : decode cX1_pressureOfPart 0 = .ok (.aload_n 0, 1) := by decide +kernel
theorem dX1_pressureOfPart_1 : decode cX1_pressureOfPart 1 = .ok (.iload_n 1, 1) := by decide +kernel
theorem dX1_pressureOfPart_2 : decode cX1_pressureOfPart 2 = .ok (.invokevirtual 112, 3) := by decide +kernel
theorem dX1_pressureOfPart_5 : decode cX1_pressureOfPart 5 = .ok (.istore_n 3, 1) := by decide +kernel
theorem dX1_pressureOfPart_6 : decode cX1_pressureOfPart 6 = .ok (.aload_n 0, 1) := by decide +kernel
theorem dX1_pressureOfPart_7 : decode cX1_pressureOfPart 7 = .ok (.iload_n 1, 1) := by decide +kernel
theorem dX1_pressureOfPart_8 : decode cX1_pressureOfPart 8 = .ok (.invokevirtual 104, 3) := by decide +kernel
theorem dX1_pressureOfPart_11 : decode cX1_pressureOfPart 11 = .ok (.iload_n 2, 1) := by decide +kernel
theorem dX1_pressureOfPart_12 : decode cX1_pressureOfPart 12 = .ok (.iload_n 3, 1) := by decide +kernel
theorem dX1_pressureOfPart_13 : decode cX1_pressureOfPart 13 = .ok (.imul, 1) := by decide +kernel
theorem dX1_pressureOfPart_14 : decode cX1_pressureOfPart 14 = .ok (.invokevirtual 120, 3) := by decide +kernel
theorem dX1_pressureOfPart_17 : decode cX1_pressureOfPart 17 = .ok (.iload_n 3, 1) := by decide +kernel
theorem dX1_pressureOfPart_18 : decode cX1_pressureOfPart 18 = .ok (.invokestatic 116, 3) := by decide +kernel
theorem dX1_pressureOfPart_21 : decode cX1_pressureOfPart 21 = .ok (.ireturn, 1) := by decide +kernel
theorem dX1_pressureOf_0 : decode cX1_pressureOf 0 = .ok (.ldc2_w 124, 3) := by decide +kernel
theorem dX1_pressureOf_3 : decode cX1_pressureOf 3 = .ok (.lload_n 0, 1) := by decide +kernel
theorem dX1_pressureOf_4 : decode cX1_pressureOf 4 = .ok (.lmul, 1) := by decide +kernel
theorem dX1_pressureOf_5 : decode cX1_pressureOf 5 = .ok (.ldc2_w 126, 3) := by decide +kernel
theorem dX1_pressureOf_8 : decode cX1_pressureOf 8 = .ok (.iconst 1, 1) := by decide +kernel
theorem dX1_pressureOf_9 : decode cX1_pressureOf 9 = .ok (.iload_n 2, 1) := by decide +kernel
theorem dX1_pressureOf_10 : decode cX1_pressureOf 10 = .ok (.invokestatic 99, 3) := by decide +kernel
theorem dX1_pressureOf_13 : decode cX1_pressureOf 13 = .ok (.i2l, 1) := by decide +kernel
theorem dX1_pressureOf_14 : decode cX1_pressureOf 14 = .ok (.lmul, 1) := by decide +kernel
theorem dX1_pressureOf_15 : decode cX1_pressureOf 15 = .ok (.ldiv, 1) := by decide +kernel
theorem dX1_pressureOf_16 : decode cX1_pressureOf 16 = .ok (.l2i, 1) := by decide +kernel
theorem dX1_pressureOf_17 : decode cX1_pressureOf 17 = .ok (.ireturn, 1) := by decide +kernel
theorem dX1_pressureAtPipe_0 : decode cX1_pressureAtPipe 0 = .ok (.iconst 0, 1) := by decide +kernel
theorem dX1_pressureAtPipe_1 : decode cX1_pressureAtPipe 1 = .ok (.aload_n 0, 1) := by decide +kernel
theorem dX1_pressureAtPipe_2 : decode cX1_pressureAtPipe 2 = .ok (.getfield 27, 3) := by decide +kernel
theorem dX1_pressureAtPipe_5 : decode cX1_pressureAtPipe 5 = .ok (.aload_n 0, 1) := by decide +kernel
theorem dX1_pressureAtPipe_6 : decode cX1_pressureAtPipe 6 = .ok (.iconst 0, 1) := by decide +kernel
theorem dX1_pressureAtPipe_7 : decode cX1_pressureAtPipe 7 = .ok (.invokevirtual 128, 3) := by decide +kernel
theorem dX1_pressureAtPipe_10 : decode cX1_pressureAtPipe 10 = .ok (.isub, 1) := by decide +kernel
theorem dX1_pressureAtPipe_11 : decode cX1_pressureAtPipe 11 = .ok (.invokestatic 99, 3) := by decide +kernel
theorem dX1_pressureAtPipe_14 : decode cX1_pressureAtPipe 14 = .ok (.ireturn, 1) := by decide +kernel
theorem dX1_pressureAtCasing_0 : decode cX1_pressureAtCasing 0 = .ok (.iconst 0, 1) := by decide +kernel
theorem dX1_pressureAtCasing_1 : decode cX1_pressureAtCasing 1 = .ok (.aload_n 0, 1) := by decide +kernel
theorem dX1_pressureAtCasing_2 : decode cX1_pressureAtCasing 2 = .ok (.getfield 27, 3) := by decide +kernel
theorem dX1_pressureAtCasing_5 : decode cX1_pressureAtCasing 5 = .ok (.aload_n 0, 1) := by decide +kernel
theorem dX1_pressureAtCasing_6 : decode cX1_pressureAtCasing 6 = .ok (.iconst 1, 1) := by decide +kernel
theorem dX1_pressureAtCasing_7 : decode cX1_pressureAtCasing 7 = .ok (.invokevirtual 128, 3) := by decide +kernel
theorem dX1_pressureAtCasing_10 : decode cX1_pressureAtCasing 10 = .ok (.isub, 1) := by decide +kernel
theorem dX1_pressureAtCasing_11 : decode cX1_pressureAtCasing 11 = .ok (.invokestatic 99, 3) := by decide +kernel
theorem dX1_pressureAtCasing_14 : decode cX1_pressureAtCasing 14 = .ok (.ireturn, 1) := by decide +kernel
theorem dX1_pressureAtStandpipe_0 : decode cX1_pressureAtStandpipe 0 = .ok (.aload_n 0, 1) := by decide +kernel
theorem dX1_pressureAtStandpipe_1 : decode cX1_pressureAtStandpipe 1 = .ok (.getfield 30, 3) := by decide +kernel
theorem dX1_pressureAtStandpipe_4 : decode cX1_pressureAtStandpipe 4 = .ok (.aload_n 0, 1) := by decide +kernel
theorem dX1_pressureAtStandpipe_5 : decode cX1_pressureAtStandpipe 5 = .ok (.invokevirtual 131, 3) := by decide +kernel
theorem dX1_pressureAtStandpipe_8 : decode cX1_pressureAtStandpipe 8 = .ok (.iadd, 1) := by decide +kernel
theorem dX1_pressureAtStandpipe_9 : decode cX1_pressureAtStandpipe 9 = .ok (.ireturn, 1) := by decide +kernel
theorem dX1_pressureAtShoe_0 : decode cX1_pressureAtShoe 0 = .ok (.aload_n 0, 1) := by decide +kernel
theorem dX1_pressureAtShoe_1 : decode cX1_pressureAtShoe 1 = .ok (.invokevirtual 134, 3) := by decide +kernel
theorem dX1_pressureAtShoe_4 : decode cX1_pressureAtShoe 4 = .ok (.aload_n 0, 1) := by decide +kernel
theorem dX1_pressureAtShoe_5 : decode cX1_pressureAtShoe 5 = .ok (.iconst 1, 1) := by decide +kernel
theorem dX1_pressureAtShoe_6 : decode cX1_pressureAtShoe 6 = .ok (.aload_n 0, 1) := by decide +kernel
theorem dX1_pressureAtShoe_7 : decode cX1_pressureAtShoe 7 = .ok (.getfield 21, 3) := by decide +kernel
theorem dX1_pressureAtShoe_10 : decode cX1_pressureAtShoe 10 = .ok (.invokevirtual 137, 3) := by decide +kernel
theorem dX1_pressureAtShoe_13 : decode cX1_pressureAtShoe 13 = .ok (.iadd, 1) := by decide +kernel
theorem dX1_pressureAtShoe_14 : decode cX1_pressureAtShoe 14 = .ok (.ireturn, 1) := by decide +kernel
theorem dX1_densityToKill_0 : decode cX1_densityToKill 0 = .ok (.ldc2_w 124, 3) := by decide +kernel
theorem dX1_densityToKill_3 : decode cX1_densityToKill 3 = .ok (.iconst 1, 1) := by decide +kernel
theorem dX1_densityToKill_4 : decode cX1_densityToKill 4 = .ok (.aload_n 0, 1) := by decide +kernel
theorem dX1_densityToKill_5 : decode cX1_densityToKill 5 = .ok (.getfield 9, 3) := by decide +kernel
theorem dX1_densityToKill_8 : decode cX1_densityToKill 8 = .ok (.invokestatic 99, 3) := by decide +kernel
theorem dX1_densityToKill_11 : decode cX1_densityToKill 11 = .ok (.i2l, 1) := by decide +kernel
theorem dX1_densityToKill_12 : decode cX1_densityToKill 12 = .ok (.lmul, 1) := by decide +kernel
theorem dX1_densityToKill_13 : decode cX1_densityToKill 13 = .ok (.lstore_n 1, 1) := by decide +kernel
theorem dX1_densityToKill_14 : decode cX1_densityToKill 14 = .ok (.ldc2_w 126, 3) := by decide +kernel
theorem dX1_densityToKill_17 : decode cX1_densityToKill 17 = .ok (.aload_n 0, 1) := by decide +kernel
theorem dX1_densityToKill_18 : decode cX1_densityToKill 18 = .ok (.getfield 27, 3) := by decide +kernel
theorem dX1_densityToKill_21 : decode cX1_densityToKill 21 = .ok (.i2l, 1) := by decide +kernel
theorem dX1_densityToKill_22 : decode cX1_densityToKill 22 = .ok (.lmul, 1) := by decide +kernel
theorem dX1_densityToKill_23 : decode cX1_densityToKill 23 = .ok (.lload_n 1, 1) := by decide +kernel
theorem dX1_densityToKill_24 : decode cX1_densityToKill 24 = .ok (.ladd, 1) := by decide +kernel
theorem dX1_densityToKill_25 : decode cX1_densityToKill 25 = .ok (.lconst 1, 1) := by decide +kernel
theorem dX1_densityToKill_26 : decode cX1_densityToKill 26 = .ok (.lsub, 1) := by decide +kernel
theorem dX1_densityToKill_27 : decode cX1_densityToKill 27 = .ok (.lload_n 1, 1) := by decide +kernel
theorem dX1_densityToKill_28 : decode cX1_densityToKill 28 = .ok (.ldiv, 1) := by decide +kernel
theorem dX1_densityToKill_29 : decode cX1_densityToKill 29 = .ok (.lstore_n 3, 1) := by decide +kernel
theorem dX1_densityToKill_30 : decode cX1_densityToKill 30 = .ok (.lload_n 3, 1) := by decide +kernel
theorem dX1_densityToKill_31 : decode cX1_densityToKill 31 = .ok (.ldc2_w 140, 3) := by decide +kernel
theorem dX1_densityToKill_34 : decode cX1_densityToKill 34 = .ok (.lcmp, 1) := by decide +kernel
theorem dX1_densityToKill_35 : decode cX1_densityToKill 35 = .ok (.ifCond .le 8, 3) := by decide +kernel
theorem dX1_densityToKill_38 : decode cX1_densityToKill 38 = .ok (.bipush (-4), 2) := by decide +kernel
theorem dX1_densityToKill_40 : decode cX1_densityToKill 40 = .ok (.goto 9, 3) := by decide +kernel
theorem dX1_densityToKill_43 : decode cX1_densityToKill 43 = .ok (.lconst 1, 1) := by decide +kernel
theorem dX1_densityToKill_44 : decode cX1_densityToKill 44 = .ok (.lload_n 3, 1) := by decide +kernel
theorem dX1_densityToKill_45 : decode cX1_densityToKill 45 = .ok (.invokestatic 142, 3) := by decide +kernel
theorem dX1_densityToKill_48 : decode cX1_densityToKill 48 = .ok (.l2i, 1) := by decide +kernel
theorem dX1_densityToKill_49 : decode cX1_densityToKill 49 = .ok (.ireturn, 1) := by decide +kernel
theorem dX1_mixedSettings_0 : decode cX1_mixedSettings 0 = .ok (.lload_n 1, 1) := by decide +kernel
theorem dX1_mixedSettings_1 : decode cX1_mixedSettings 1 = .ok (.aload_n 0, 1) := by decide +kernel
theorem dX1_mixedSettings_2 : decode cX1_mixedSettings 2 = .ok (.getfield 9, 3) := by decide +kernel
theorem dX1_mixedSettings_5 : decode cX1_mixedSettings 5 = .ok (.i2l, 1) := by decide +kernel
theorem dX1_mixedSettings_6 : decode cX1_mixedSettings 6 = .ok (.invokestatic 145, 3) := by decide +kernel
theorem dX1_mixedSettings_9 : decode cX1_mixedSettings 9 = .ok (.lstore_n 1, 1) := by decide +kernel
theorem dX1_mixedSettings_10 : decode cX1_mixedSettings 10 = .ok (.lload_n 1, 1) := by decide +kernel
theorem dX1_mixedSettings_11 : decode cX1_mixedSettings 11 = .ok (.aload_n 0, 1) := by decide +kernel
theorem dX1_mixedSettings_12 : decode cX1_mixedSettings 12 = .ok (.getfield 15, 3) := by decide +kernel
theorem dX1_mixedSettings_15 : decode cX1_mixedSettings 15 = .ok (.i2l, 1) := by decide +kernel
theorem dX1_mixedSettings_16 : decode cX1_mixedSettings 16 = .ok (.invokestatic 145, 3) := by decide +kernel
theorem dX1_mixedSettings_19 : decode cX1_mixedSettings 19 = .ok (.lstore_n 1, 1) := by decide +kernel
theorem dX1_mixedSettings_20 : decode cX1_mixedSettings 20 = .ok (.lload_n 1, 1) := by decide +kernel
theorem dX1_mixedSettings_21 : decode cX1_mixedSettings 21 = .ok (.aload_n 0, 1) := by decide +kernel
theorem dX1_mixedSettings_22 : decode cX1_mixedSettings 22 = .ok (.getfield 18, 3) := by decide +kernel
theorem dX1_mixedSettings_25 : decode cX1_mixedSettings 25 = .ok (.i2l, 1) := by decide +kernel
theorem dX1_mixedSettings_26 : decode cX1_mixedSettings 26 = .ok (.invokestatic 145, 3) := by decide +kernel
theorem dX1_mixedSettings_29 : decode cX1_mixedSettings 29 = .ok (.lstore_n 1, 1) := by decide +kernel
theorem dX1_mixedSettings_30 : decode cX1_mixedSettings 30 = .ok (.lload_n 1, 1) := by decide +kernel
theorem dX1_mixedSettings_31 : decode cX1_mixedSettings 31 = .ok (.aload_n 0, 1) := by decide +kernel
theorem dX1_mixedSettings_32 : decode cX1_mixedSettings 32 = .ok (.getfield 21, 3) := by decide +kernel
theorem dX1_mixedSettings_35 : decode cX1_mixedSettings 35 = .ok (.i2l, 1) := by decide +kernel
theorem dX1_mixedSettings_36 : decode cX1_mixedSettings 36 = .ok (.invokestatic 145, 3) := by decide +kernel
theorem dX1_mixedSettings_39 : decode cX1_mixedSettings 39 = .ok (.lstore_n 1, 1) := by decide +kernel
theorem dX1_mixedSettings_40 : decode cX1_mixedSettings 40 = .ok (.lload_n 1, 1) := by decide +kernel
theorem dX1_mixedSettings_41 : decode cX1_mixedSettings 41 = .ok (.aload_n 0, 1) := by decide +kernel
theorem dX1_mixedSettings_42 : decode cX1_mixedSettings 42 = .ok (.getfield 24, 3) := by decide +kernel
theorem dX1_mixedSettings_45 : decode cX1_mixedSettings 45 = .ok (.i2l, 1) := by decide +kernel
theorem dX1_mixedSettings_46 : decode cX1_mixedSettings 46 = .ok (.invokestatic 145, 3) := by decide +kernel
theorem dX1_mixedSettings_49 : decode cX1_mixedSettings 49 = .ok (.lstore_n 1, 1) := by decide +kernel
theorem dX1_mixedSettings_50 : decode cX1_mixedSettings 50 = .ok (.lload_n 1, 1) := by decide +kernel
theorem dX1_mixedSettings_51 : decode cX1_mixedSettings 51 = .ok (.aload_n 0, 1) := by decide +kernel
theorem dX1_mixedSettings_52 : decode cX1_mixedSettings 52 = .ok (.getfield 27, 3) := by decide +kernel
theorem dX1_mixedSettings_55 : decode cX1_mixedSettings 55 = .ok (.i2l, 1) := by decide +kernel
theorem dX1_mixedSettings_56 : decode cX1_mixedSettings 56 = .ok (.invokestatic 145, 3) := by decide +kernel
theorem dX1_mixedSettings_59 : decode cX1_mixedSettings 59 = .ok (.lstore_n 1, 1) := by decide +kernel
theorem dX1_mixedSettings_60 : decode cX1_mixedSettings 60 = .ok (.lload_n 1, 1) := by decide +kernel
theorem dX1_mixedSettings_61 : decode cX1_mixedSettings 61 = .ok (.aload_n 0, 1) := by decide +kernel
theorem dX1_mixedSettings_62 : decode cX1_mixedSettings 62 = .ok (.getfield 30, 3) := by decide +kernel
theorem dX1_mixedSettings_65 : decode cX1_mixedSettings 65 = .ok (.i2l, 1) := by decide +kernel
theorem dX1_mixedSettings_66 : decode cX1_mixedSettings 66 = .ok (.invokestatic 145, 3) := by decide +kernel
theorem dX1_mixedSettings_69 : decode cX1_mixedSettings 69 = .ok (.lstore_n 1, 1) := by decide +kernel
theorem dX1_mixedSettings_70 : decode cX1_mixedSettings 70 = .ok (.lload_n 1, 1) := by decide +kernel
theorem dX1_mixedSettings_71 : decode cX1_mixedSettings 71 = .ok (.aload_n 0, 1) := by decide +kernel
theorem dX1_mixedSettings_72 : decode cX1_mixedSettings 72 = .ok (.getfield 33, 3) := by decide +kernel
theorem dX1_mixedSettings_75 : decode cX1_mixedSettings 75 = .ok (.i2l, 1) := by decide +kernel
theorem dX1_mixedSettings_76 : decode cX1_mixedSettings 76 = .ok (.invokestatic 145, 3) := by decide +kernel
theorem dX1_mixedSettings_79 : decode cX1_mixedSettings 79 = .ok (.lreturn, 1) := by decide +kernel
theorem dX1_mixedReadings_0 : decode cX1_mixedReadings 0 = .ok (.lload_n 1, 1) := by decide +kernel
theorem dX1_mixedReadings_1 : decode cX1_mixedReadings 1 = .ok (.aload_n 0, 1) := by decide +kernel
theorem dX1_mixedReadings_2 : decode cX1_mixedReadings 2 = .ok (.invokevirtual 131, 3) := by decide +kernel
theorem dX1_mixedReadings_5 : decode cX1_mixedReadings 5 = .ok (.i2l, 1) := by decide +kernel
theorem dX1_mixedReadings_6 : decode cX1_mixedReadings 6 = .ok (.invokestatic 145, 3) := by decide +kernel
theorem dX1_mixedReadings_9 : decode cX1_mixedReadings 9 = .ok (.lstore_n 1, 1) := by decide +kernel
theorem dX1_mixedReadings_10 : decode cX1_mixedReadings 10 = .ok (.lload_n 1, 1) := by decide +kernel
theorem dX1_mixedReadings_11 : decode cX1_mixedReadings 11 = .ok (.aload_n 0, 1) := by decide +kernel
theorem dX1_mixedReadings_12 : decode cX1_mixedReadings 12 = .ok (.invokevirtual 134, 3) := by decide +kernel
theorem dX1_mixedReadings_15 : decode cX1_mixedReadings 15 = .ok (.i2l, 1) := by decide +kernel
theorem dX1_mixedReadings_16 : decode cX1_mixedReadings 16 = .ok (.invokestatic 145, 3) := by decide +kernel
theorem dX1_mixedReadings_19 : decode cX1_mixedReadings 19 = .ok (.lstore_n 1, 1) := by decide +kernel
theorem dX1_mixedReadings_20 : decode cX1_mixedReadings 20 = .ok (.lload_n 1, 1) := by decide +kernel
theorem dX1_mixedReadings_21 : decode cX1_mixedReadings 21 = .ok (.aload_n 0, 1) := by decide +kernel
theorem dX1_mixedReadings_22 : decode cX1_mixedReadings 22 = .ok (.invokevirtual 148, 3) := by decide +kernel
theorem dX1_mixedReadings_25 : decode cX1_mixedReadings 25 = .ok (.i2l, 1) := by decide +kernel
theorem dX1_mixedReadings_26 : decode cX1_mixedReadings 26 = .ok (.invokestatic 145, 3) := by decide +kernel
theorem dX1_mixedReadings_29 : decode cX1_mixedReadings 29 = .ok (.lstore_n 1, 1) := by decide +kernel
theorem dX1_mixedReadings_30 : decode cX1_mixedReadings 30 = .ok (.lload_n 1, 1) := by decide +kernel
theorem dX1_mixedReadings_31 : decode cX1_mixedReadings 31 = .ok (.aload_n 0, 1) := by decide +kernel
theorem dX1_mixedReadings_32 : decode cX1_mixedReadings 32 = .ok (.invokevirtual 96, 3) := by decide +kernel
theorem dX1_mixedReadings_35 : decode cX1_mixedReadings 35 = .ok (.i2l, 1) := by decide +kernel
theorem dX1_mixedReadings_36 : decode cX1_mixedReadings 36 = .ok (.invokestatic 145, 3) := by decide +kernel
theorem dX1_mixedReadings_39 : decode cX1_mixedReadings 39 = .ok (.lstore_n 1, 1) := by decide +kernel
theorem dX1_mixedReadings_40 : decode cX1_mixedReadings 40 = .ok (.lload_n 1, 1) := by decide +kernel
theorem dX1_mixedReadings_41 : decode cX1_mixedReadings 41 = .ok (.aload_n 0, 1) := by decide +kernel
theorem dX1_mixedReadings_42 : decode cX1_mixedReadings 42 = .ok (.getfield 65, 3) := by decide +kernel
theorem dX1_mixedReadings_45 : decode cX1_mixedReadings 45 = .ok (.i2l, 1) := by decide +kernel
theorem dX1_mixedReadings_46 : decode cX1_mixedReadings 46 = .ok (.invokestatic 145, 3) := by decide +kernel
theorem dX1_mixedReadings_49 : decode cX1_mixedReadings 49 = .ok (.lstore_n 1, 1) := by decide +kernel
theorem dX1_mixedReadings_50 : decode cX1_mixedReadings 50 = .ok (.lload_n 1, 1) := by decide +kernel
theorem dX1_mixedReadings_51 : decode cX1_mixedReadings 51 = .ok (.aload_n 0, 1) := by decide +kernel
theorem dX1_mixedReadings_52 : decode cX1_mixedReadings 52 = .ok (.getfield 68, 3) := by decide +kernel
theorem dX1_mixedReadings_55 : decode cX1_mixedReadings 55 = .ok (.i2l, 1) := by decide +kernel
theorem dX1_mixedReadings_56 : decode cX1_mixedReadings 56 = .ok (.invokestatic 145, 3) := by decide +kernel
theorem dX1_mixedReadings_59 : decode cX1_mixedReadings 59 = .ok (.lstore_n 1, 1) := by decide +kernel
theorem dX1_mixedReadings_60 : decode cX1_mixedReadings 60 = .ok (.lload_n 1, 1) := by decide +kernel
theorem dX1_mixedReadings_61 : decode cX1_mixedReadings 61 = .ok (.aload_n 0, 1) := by decide +kernel
theorem dX1_mixedReadings_62 : decode cX1_mixedReadings 62 = .ok (.getfield 71, 3) := by decide +kernel
theorem dX1_mixedReadings_65 : decode cX1_mixedReadings 65 = .ok (.i2l, 1) := by decide +kernel
theorem dX1_mixedReadings_66 : decode cX1_mixedReadings 66 = .ok (.invokestatic 145, 3) := by decide +kernel
theorem dX1_mixedReadings_69 : decode cX1_mixedReadings 69 = .ok (.lreturn, 1) := by decide +kernel
end
section
theorem dX2_init_0 : decode cX2_init 0 = .ok (.aload_n 0, 1) := by decide +kernel
theorem dX2_init_1 : decode cX2_init 1 = .ok (.invokespecial 1, 3) := by decide +kernel
theorem dX2_init_4 : decode cX2_init 4 = .ok (.aload_n 0, 1) := by decide +kernel
theorem dX2_init_5 : decode cX2_init 5 = .ok (.new 7, 3) := by decide +kernel
theorem dX2_init_8 : decode cX2_init 8 = .ok (.dup, 1) := by decide +kernel
theorem dX2_init_9 : decode cX2_init 9 = .ok (.invokespecial 9, 3) := by decide +kernel
theorem dX2_init_12 : decode cX2_init 12 = .ok (.putfield 10, 3) := by decide +kernel
theorem dX2_init_15 : decode cX2_init 15 = .ok (.aload_n 0, 1) := by decide +kernel
theorem dX2_init_16 : decode cX2_init 16 = .ok (.new 7, 3) := by decide +kernel
theorem dX2_init_19 : decode cX2_init 19 = .ok (.dup, 1) := by decide +kernel
theorem dX2_init_20 : decode cX2_init 20 = .ok (.invokespecial 9, 3) := by decide +kernel
theorem dX2_init_23 : decode cX2_init 23 = .ok (.putfield 16, 3) := by decide +kernel
theorem dX2_init_26 : decode cX2_init 26 = .ok (.aload_n 0, 1) := by decide +kernel
theorem dX2_init_27 : decode cX2_init 27 = .ok (.iconst 4, 1) := by decide +kernel
theorem dX2_init_28 : decode cX2_init 28 = .ok (.anewarray 7, 3) := by decide +kernel
theorem dX2_init_31 : decode cX2_init 31 = .ok (.putfield 19, 3) := by decide +kernel
theorem dX2_init_34 : decode cX2_init 34 = .ok (.iconst 0, 1) := by decide +kernel
theorem dX2_init_35 : decode cX2_init 35 = .ok (.istore_n 1, 1) := by decide +kernel
theorem dX2_init_36 : decode cX2_init 36 = .ok (.iload_n 1, 1) := by decide +kernel
theorem dX2_init_37 : decode cX2_init 37 = .ok (.iconst 4, 1) := by decide +kernel
theorem dX2_init_38 : decode cX2_init 38 = .ok (.if_icmp .ge 22, 3) := by decide +kernel
theorem dX2_init_41 : decode cX2_init 41 = .ok (.aload_n 0, 1) := by decide +kernel
theorem dX2_init_42 : decode cX2_init 42 = .ok (.getfield 19, 3) := by decide +kernel
theorem dX2_init_45 : decode cX2_init 45 = .ok (.iload_n 1, 1) := by decide +kernel
theorem dX2_init_46 : decode cX2_init 46 = .ok (.new 7, 3) := by decide +kernel
theorem dX2_init_49 : decode cX2_init 49 = .ok (.dup, 1) := by decide +kernel
theorem dX2_init_50 : decode cX2_init 50 = .ok (.invokespecial 9, 3) := by decide +kernel
theorem dX2_init_53 : decode cX2_init 53 = .ok (.aastore, 1) := by decide +kernel
theorem dX2_init_54 : decode cX2_init 54 = .ok (.iinc 1 1, 3) := by decide +kernel
theorem dX2_init_57 : decode cX2_init 57 = .ok (.goto (-21), 3) := by decide +kernel
theorem dX2_init_60 : decode cX2_init 60 = .ok (.aload_n 0, 1) := by decide +kernel
theorem dX2_init_61 : decode cX2_init 61 = .ok (.iconst 0, 1) := by decide +kernel
theorem dX2_init_62 : decode cX2_init 62 = .ok (.putfield 23, 3) := by decide +kernel
theorem dX2_init_65 : decode cX2_init 65 = .ok (.aload_n 0, 1) := by decide +kernel
theorem dX2_init_66 : decode cX2_init 66 = .ok (.iconst 4, 1) := by decide +kernel
theorem dX2_init_67 : decode cX2_init 67 = .ok (.newarray .int, 2) := by decide +kernel
theorem dX2_init_69 : decode cX2_init 69 = .ok (.putfield 27, 3) := by decide +kernel
theorem dX2_init_72 : decode cX2_init 72 = .ok (.return_, 1) := by decide +kernel
theorem dX2_setGeometry_0 : decode cX2_setGeometry 0 = .ok (.iload_n 1, 1) := by decide +kernel
theorem dX2_setGeometry_1 : decode cX2_setGeometry 1 = .ok (.bipush 100, 2) := by decide +kernel
theorem dX2_setGeometry_3 : decode cX2_setGeometry 3 = .ok (.sipush 3000, 3) := by decide +kernel
theorem dX2_setGeometry_6 : decode cX2_setGeometry 6 = .ok (.invokestatic 31, 3) := by decide +kernel
theorem dX2_setGeometry_9 : decode cX2_setGeometry 9 = .ok (.ifCond .eq 37, 3) := by decide +kernel
theorem dX2_setGeometry_12 : decode cX2_setGeometry 12 = .ok (.iload_n 2, 1) := by decide +kernel
theorem dX2_setGeometry_13 : decode cX2_setGeometry 13 = .ok (.iconst 1, 1) := by decide +kernel
theorem dX2_setGeometry_14 : decode cX2_setGeometry 14 = .ok (.bipush 20, 2) := by decide +kernel
theorem dX2_setGeometry_16 : decode cX2_setGeometry 16 = .ok (.invokestatic 31, 3) := by decide +kernel
theorem dX2_setGeometry_19 : decode cX2_setGeometry 19 = .ok (.ifCond .eq 27, 3) := by decide +kernel
theorem dX2_setGeometry_22 : decode cX2_setGeometry 22 = .ok (.iload_n 3, 1) := by decide +kernel
theorem dX2_setGeometry_23 : decode cX2_setGeometry 23 = .ok (.iconst 5, 1) := by decide +kernel
theorem dX2_setGeometry_24 : decode cX2_setGeometry 24 = .ok (.bipush 60, 2) := by decide +kernel
theorem dX2_setGeometry_26 : decode cX2_setGeometry 26 = .ok (.invokestatic 31, 3) := by decide +kernel
theorem dX2_setGeometry_29 : decode cX2_setGeometry 29 = .ok (.ifCond .eq 17, 3) := by decide +kernel
theorem dX2_setGeometry_32 : decode cX2_setGeometry 32 = .ok (.iload 4, 2) := by decide +kernel
theorem dX2_setGeometry_34 : decode cX2_setGeometry 34 = .ok (.iconst 1, 1) := by decide +kernel
theorem dX2_setGeometry_35 : decode cX2_setGeometry 35 = .ok (.iload_n 1, 1) := by decide +kernel
theorem dX2_setGeometry_36 : decode cX2_setGeometry 36 = .ok (.invokestatic 31, 3) := by decide +kernel
theorem dX2_setGeometry_39 : decode cX2_setGeometry 39 = .ok (.ifCond .eq 7, 3) := by decide +kernel
theorem dX2_setGeometry_42 : decode cX2_setGeometry 42 = .ok (.iconst 1, 1) := by decide +kernel
theorem dX2_setGeometry_43 : decode cX2_setGeometry 43 = .ok (.goto 4, 3) := by decide +kernel
theorem dX2_setGeometry_46 : decode cX2_setGeometry 46 = .ok (.iconst 0, 1) := by decide +kernel
theorem dX2_setGeometry_47 : decode cX2_setGeometry 47 = .ok (.istore 5, 2) := by decide +kernel
theorem dX2_setGeometry_49 : decode cX2_setGeometry 49 = .ok (.iload 5, 2) := by decide +kernel
theorem dX2_setGeometry_51 : decode cX2_setGeometry 51 = .ok (.ifCond .ne 10, 3) := by decide +kernel
theorem dX2_setGeometry_54 : decode cX2_setGeometry 54 = .ok (.aload_n 0, 1) := by decide +kernel
theorem dX2_setGeometry_55 : decode cX2_setGeometry 55 = .ok (.bipush (-2), 2) := by decide +kernel
theorem dX2_setGeometry_57 : decode cX2_setGeometry 57 = .ok (.invokevirtual 35, 3) := by decide +kernel
theorem dX2_setGeometry_60 : decode cX2_setGeometry 60 = .ok (.ireturn, 1) := by decide +kernel
theorem dX2_setGeometry_61 : decode cX2_setGeometry 61 = .ok (.aload_n 0, 1) := by decide +kernel
theorem dX2_setGeometry_62 : decode cX2_setGeometry 62 = .ok (.invokevirtual 39, 3) := by decide +kernel
theorem dX2_setGeometry_65 : decode cX2_setGeometry 65 = .ok (.aload_n 0, 1) := by decide +kernel
theorem dX2_setGeometry_66 : decode cX2_setGeometry 66 = .ok (.getfield 10, 3) := by decide +kernel
theorem dX2_setGeometry_69 : decode cX2_setGeometry 69 = .ok (.iload_n 1, 1) := by decide +kernel
theorem dX2_setGeometry_70 : decode cX2_setGeometry 70 = .ok (.putfield 42, 3) := by decide +kernel
theorem dX2_setGeometry_73 : decode cX2_setGeometry 73 = .ok (.aload_n 0, 1) := by decide +kernel
theorem dX2_setGeometry_74 : decode cX2_setGeometry 74 = .ok (.getfield 10, 3) := by decide +kernel
theorem dX2_setGeometry_77 : decode cX2_setGeometry 77 = .ok (.iload_n 2, 1) := by decide +kernel
theorem dX2_setGeometry_78 : decode cX2_setGeometry 78 = .ok (.putfield 45, 3) := by decide +kernel
theorem dX2_setGeometry_81 : decode cX2_setGeometry 81 = .ok (.aload_n 0, 1) := by decide +kernel
theorem dX2_setGeometry_82 : decode cX2_setGeometry 82 = .ok (.getfield 10, 3) := by decide +kernel
theorem dX2_setGeometry_85 : decode cX2_setGeometry 85 = .ok (.iload_n 3, 1) := by decide +kernel
theorem dX2_setGeometry_86 : decode cX2_setGeometry 86 = .ok (.putfield 48, 3) := by decide +kernel
theorem dX2_setGeometry_89 : decode cX2_setGeometry 89 = .ok (.aload_n 0, 1) := by decide +kernel
theorem dX2_setGeometry_90 : decode cX2_setGeometry 90 = .ok (.getfield 10, 3) := by decide +kernel
theorem dX2_setGeometry_93 : decode cX2_setGeometry 93 = .ok (.iload 4, 2) := by decide +kernel
theorem dX2_setGeometry_95 : decode cX2_setGeometry 95 = .ok (.putfield 51, 3) := by decide +kernel
theorem dX2_setGeometry_98 : decode cX2_setGeometry 98 = .ok (.aload_n 0, 1) := by decide +kernel
theorem dX2_setGeometry_99 : decode cX2_setGeometry 99 = .ok (.getfield 10, 3) := by decide +kernel
theorem dX2_setGeometry_102 : decode cX2_setGeometry 102 = .ok (.invokevirtual 54, 3) := by decide +kernel
theorem dX2_setGeometry_105 : decode cX2_setGeometry 105 = .ok (.aload_n 0, 1) := by decide +kernel
theorem dX2_setGeometry_106 : decode cX2_setGeometry 106 = .ok (.getfield 10, 3) := by decide +kernel
theorem dX2_setGeometry_109 : decode cX2_setGeometry 109 = .ok (.invokevirtual 57, 3) := by decide +kernel
theorem dX2_setGeometry_112 : decode cX2_setGeometry 112 = .ok (.aload_n 0, 1) := by decide +kernel
theorem dX2_setGeometry_113 : decode cX2_setGeometry 113 = .ok (.getfield 10, 3) := by decide +kernel
theorem dX2_setGeometry_116 : decode cX2_setGeometry 116 = .ok (.invokevirtual 61, 3) := by decide +kernel
theorem dX2_setGeometry_119 : decode cX2_setGeometry 119 = .ok (.iadd, 1) := by decide +kernel
theorem dX2_setGeometry_120 : decode cX2_setGeometry 120 = .ok (.ireturn, 1) := by decide +kernel
theorem dX2_setMud_0 : decode cX2_setMud 0 = .ok (.iload_n 1, 1) := by decide +kernel
theorem dX2_setMud_1 : decode cX2_setMud 1 = .ok (.iconst 1, 1) := by decide +kernel
theorem dX2_setMud_2 : decode cX2_setMud 2 = .ok (.sipush 2500, 3) := by decide +kernel
theorem dX2_setMud_5 : decode cX2_setMud 5 = .ok (.invokestatic 31, 3) := by decide +kernel
theorem dX2_setMud_8 : decode cX2_setMud 8 = .ok (.ifCond .ne 10, 3) := by decide +kernel
theorem dX2_setMud_11 : decode cX2_setMud 11 = .ok (.aload_n 0, 1) := by decide +kernel
theorem dX2_setMud_12 : decode cX2_setMud 12 = .ok (.bipush (-2), 2) := by decide +kernel
theorem dX2_setMud_14 : decode cX2_setMud 14 = .ok (.invokevirtual 35, 3) := by decide +kernel
theorem dX2_setMud_17 : decode cX2_setMud 17 = .ok (.ireturn, 1) := by decide +kernel
theorem dX2_setMud_18 : decode cX2_setMud 18 = .ok (.aload_n 0, 1) := by decide +kernel
theorem dX2_setMud_19 : decode cX2_setMud 19 = .ok (.invokevirtual 39, 3) := by decide +kernel
theorem dX2_setMud_22 : decode cX2_setMud 22 = .ok (.aload_n 0, 1) := by decide +kernel
theorem dX2_setMud_23 : decode cX2_setMud 23 = .ok (.getfield 10, 3) := by decide +kernel
theorem dX2_setMud_26 : decode cX2_setMud 26 = .ok (.getfield 64, 3) := by decide +kernel
theorem dX2_setMud_29 : decode cX2_setMud 29 = .ok (.istore_n 2, 1) := by decide +kernel
theorem dX2_setMud_30 : decode cX2_setMud 30 = .ok (.aload_n 0, 1) := by decide +kernel
theorem dX2_setMud_31 : decode cX2_setMud 31 = .ok (.getfield 10, 3) := by decide +kernel
theorem dX2_setMud_34 : decode cX2_setMud 34 = .ok (.iload_n 1, 1) := by decide +kernel
theorem dX2_setMud_35 : decode cX2_setMud 35 = .ok (.putfield 64, 3) := by decide +kernel
theorem dX2_setMud_38 : decode cX2_setMud 38 = .ok (.iload_n 2, 1) := by decide +kernel
theorem dX2_setMud_39 : decode cX2_setMud 39 = .ok (.ireturn, 1) := by decide +kernel
theorem dX2_setFormation_0 : decode cX2_setFormation 0 = .ok (.iload_n 1, 1) := by decide +kernel
theorem dX2_setFormation_1 : decode cX2_setFormation 1 = .ok (.iconst 0, 1) := by decide +kernel
theorem dX2_setFormation_2 : decode cX2_setFormation 2 = .ok (.ldc 67, 2) := by decide +kernel
theorem dX2_setFormation_4 : decode cX2_setFormation 4 = .ok (.invokestatic 31, 3) := by decide +kernel
theorem dX2_setFormation_7 : decode cX2_setFormation 7 = .ok (.ifCond .ne 10, 3) := by decide +kernel
theorem dX2_setFormation_10 : decode cX2_setFormation 10 = .ok (.aload_n 0, 1) := by decide +kernel
theorem dX2_setFormation_11 : decode cX2_setFormation 11 = .ok (.bipush (-2), 2) := by decide +kernel
theorem dX2_setFormation_13 : decode cX2_setFormation 13 = .ok (.invokevirtual 35, 3) := by decide +kernel
theorem dX2_setFormation_16 : decode cX2_setFormation 16 = .ok (.ireturn, 1) := by decide +kernel
theorem dX2_setFormation_17 : decode cX2_setFormation 17 = .ok (.aload_n 0, 1) := by decide +kernel
theorem dX2_setFormation_18 : decode cX2_setFormation 18 = .ok (.invokevirtual 39, 3) := by decide +kernel
theorem dX2_setFormation_21 : decode cX2_setFormation 21 = .ok (.aload_n 0, 1) := by decide +kernel
theorem dX2_setFormation_22 : decode cX2_setFormation 22 = .ok (.getfield 10, 3) := by decide +kernel
theorem dX2_setFormation_25 : decode cX2_setFormation 25 = .ok (.getfield 68, 3) := by decide +kernel
theorem dX2_setFormation_28 : decode cX2_setFormation 28 = .ok (.istore_n 2, 1) := by decide +kernel
theorem dX2_setFormation_29 : decode cX2_setFormation 29 = .ok (.aload_n 0, 1) := by decide +kernel
theorem dX2_setFormation_30 : decode cX2_setFormation 30 = .ok (.getfield 10, 3) := by decide +kernel
theorem dX2_setFormation_33 : decode cX2_setFormation 33 = .ok (.iload_n 1, 1) := by decide +kernel
theorem dX2_setFormation_34 : decode cX2_setFormation 34 = .ok (.putfield 68, 3) := by decide +kernel
theorem dX2_setFormation_37 : decode cX2_setFormation 37 = .ok (.iload_n 2, 1) := by decide +kernel
theorem dX2_setFormation_38 : decode cX2_setFormation 38 = .ok (.ireturn, 1) := by decide +kernel
theorem dX2_setSlowPump_0 : decode cX2_setSlowPump 0 = .ok (.iload_n 1, 1) := by decide +kernel
theorem dX2_setSlowPump_1 : decode cX2_setSlowPump 1 = .ok (.iconst 0, 1) := by decide +kernel
theorem dX2_setSlowPump_2 : decode cX2_setSlowPump 2 = .ok (.sipush 9999, 3) := by decide +kernel
theorem dX2_setSlowPump_5 : decode cX2_setSlowPump 5 = .ok (.invokestatic 31, 3) := by decide +kernel
theorem dX2_setSlowPump_8 : decode cX2_setSlowPump 8 = .ok (.ifCond .ne 10, 3) := by decide +kernel
theorem dX2_setSlowPump_11 : decode cX2_setSlowPump 11 = .ok (.aload_n 0, 1) := by decide +kernel
theorem dX2_setSlowPump_12 : decode cX2_setSlowPump 12 = .ok (.bipush (-2), 2) := by decide +kernel
theorem dX2_setSlowPump_14 : decode cX2_setSlowPump 14 = .ok (.invokevirtual 35, 3) := by decide +kernel
theorem dX2_setSlowPump_17 : decode cX2_setSlowPump 17 = .ok (.ireturn, 1) := by decide +kernel
theorem dX2_setSlowPump_18 : decode cX2_setSlowPump 18 = .ok (.aload_n 0, 1) := by decide +kernel
theorem dX2_setSlowPump_19 : decode cX2_setSlowPump 19 = .ok (.invokevirtual 39, 3) := by decide +kernel
theorem dX2_setSlowPump_22 : decode cX2_setSlowPump 22 = .ok (.aload_n 0, 1) := by decide +kernel
theorem dX2_setSlowPump_23 : decode cX2_setSlowPump 23 = .ok (.getfield 10, 3) := by decide +kernel
theorem dX2_setSlowPump_26 : decode cX2_setSlowPump 26 = .ok (.getfield 71, 3) := by decide +kernel
theorem dX2_setSlowPump_29 : decode cX2_setSlowPump 29 = .ok (.istore_n 2, 1) := by decide +kernel
theorem dX2_setSlowPump_30 : decode cX2_setSlowPump 30 = .ok (.aload_n 0, 1) := by decide +kernel
theorem dX2_setSlowPump_31 : decode cX2_setSlowPump 31 = .ok (.getfield 10, 3) := by decide +kernel
theorem dX2_setSlowPump_34 : decode cX2_setSlowPump 34 = .ok (.iload_n 1, 1) := by decide +kernel
theorem dX2_setSlowPump_35 : decode cX2_setSlowPump 35 = .ok (.putfield 71, 3) := by decide +kernel
theorem dX2_setSlowPump_38 : decode cX2_setSlowPump 38 = .ok (.iload_n 2, 1) := by decide +kernel
theorem dX2_setSlowPump_39 : decode cX2_setSlowPump 39 = .ok (.ireturn, 1) := by decide +kernel
theorem dX2_setFracture_0 : decode cX2_setFracture 0 = .ok (.iload_n 1, 1) := by decide +kernel
theorem dX2_setFracture_1 : decode cX2_setFracture 1 = .ok (.iconst 0, 1) := by decide +kernel
theorem dX2_setFracture_2 : decode cX2_setFracture 2 = .ok (.ldc 67, 2) := by decide +kernel
theorem dX2_setFracture_4 : decode cX2_setFracture 4 = .ok (.invokestatic 31, 3) := by decide +kernel
theorem dX2_setFracture_7 : decode cX2_setFracture 7 = .ok (.ifCond .ne 10, 3) := by decide +kernel
theorem dX2_setFracture_10 : decode cX2_setFracture 10 = .ok (.aload_n 0, 1) := by decide +kernel
theorem dX2_setFracture_11 : decode cX2_setFracture 11 = .ok (.bipush (-2), 2) := by decide +kernel
theorem dX2_setFracture_13 : decode cX2_setFracture 13 = .ok (.invokevirtual 35, 3) := by decide +kernel
theorem dX2_setFracture_16 : decode cX2_setFracture 16 = .ok (.ireturn, 1) := by decide +kernel
theorem dX2_setFracture_17 : decode cX2_setFracture 17 = .ok (.aload_n 0, 1) := by decide +kernel
theorem dX2_setFracture_18 : decode cX2_setFracture 18 = .ok (.invokevirtual 39, 3) := by decide +kernel
theorem dX2_setFracture_21 : decode cX2_setFracture 21 = .ok (.aload_n 0, 1) := by decide +kernel
theorem dX2_setFracture_22 : decode cX2_setFracture 22 = .ok (.getfield 10, 3) := by decide +kernel
theorem dX2_setFracture_25 : decode cX2_setFracture 25 = .ok (.getfield 74, 3) := by decide +kernel
theorem dX2_setFracture_28 : decode cX2_setFracture 28 = .ok (.istore_n 2, 1) := by decide +kernel
theorem dX2_setFracture_29 : decode cX2_setFracture 29 = .ok (.aload_n 0, 1) := by decide +kernel
theorem dX2_setFracture_30 : decode cX2_setFracture 30 = .ok (.getfield 10, 3) := by decide +kernel
theorem dX2_setFracture_33 : decode cX2_setFracture 33 = .ok (.iload_n 1, 1) := by decide +kernel
theorem dX2_setFracture_34 : decode cX2_setFracture 34 = .ok (.putfield 74, 3) := by decide +kernel
theorem dX2_setFracture_37 : decode cX2_setFracture 37 = .ok (.iload_n 2, 1) := by decide +kernel
theorem dX2_setFracture_38 : decode cX2_setFracture 38 = .ok (.ireturn, 1) := by decide +kernel
theorem dX2_pump_0 : decode cX2_pump 0 = .ok (.iload_n 1, 1) := by decide +kernel
theorem dX2_pump_1 : decode cX2_pump 1 = .ok (.iconst 1, 1) := by decide +kernel
theorem dX2_pump_2 : decode cX2_pump 2 = .ok (.if_icmp .ge 10, 3) := by decide +kernel
theorem dX2_pump_5 : decode cX2_pump 5 = .ok (.aload_n 0, 1) := by decide +kernel
theorem dX2_pump_6 : decode cX2_pump 6 = .ok (.bipush (-2), 2) := by decide +kernel
theorem dX2_pump_8 : decode cX2_pump 8 = .ok (.invokevirtual 35, 3) := by decide +kernel
theorem dX2_pump_11 : decode cX2_pump 11 = .ok (.ireturn, 1) := by decide +kernel
theorem dX2_pump_12 : decode cX2_pump 12 = .ok (.aload_n 0, 1) := by decide +kernel
theorem dX2_pump_13 : decode cX2_pump 13 = .ok (.getfield 10, 3) := by decide +kernel
theorem dX2_pump_16 : decode cX2_pump 16 = .ok (.iload_n 1, 1) := by decide +kernel
theorem dX2_pump_17 : decode cX2_pump 17 = .ok (.invokevirtual 77, 3) := by decide +kernel
theorem dX2_pump_20 : decode cX2_pump 20 = .ok (.ifCond .ne 10, 3) := by decide +kernel
theorem dX2_pump_23 : decode cX2_pump 23 = .ok (.aload_n 0, 1) := by decide +kernel
theorem dX2_pump_24 : decode cX2_pump 24 = .ok (.bipush (-3), 2) := by decide +kernel
theorem dX2_pump_26 : decode cX2_pump 26 = .ok (.invokevirtual 35, 3) := by decide +kernel
theorem dX2_pump_29 : decode cX2_pump 29 = .ok (.ireturn, 1) := by decide +kernel
theorem dX2_pump_30 : decode cX2_pump 30 = .ok (.aload_n 0, 1) := by decide +kernel
theorem dX2_pump_31 : decode cX2_pump 31 = .ok (.invokevirtual 39, 3) := by decide +kernel
theorem dX2_pump_34 : decode cX2_pump 34 = .ok (.aload_n 0, 1) := by decide +kernel
theorem dX2_pump_35 : decode cX2_pump 35 = .ok (.getfield 10, 3) := by decide +kernel
theorem dX2_pump_38 : decode cX2_pump 38 = .ok (.iload_n 1, 1) := by decide +kernel
theorem dX2_pump_39 : decode cX2_pump 39 = .ok (.aload_n 0, 1) := by decide +kernel
theorem dX2_pump_40 : decode cX2_pump 40 = .ok (.getfield 10, 3) := by decide +kernel
theorem dX2_pump_43 : decode cX2_pump 43 = .ok (.getfield 64, 3) := by decide +kernel
theorem dX2_pump_46 : decode cX2_pump 46 = .ok (.invokevirtual 81, 3) := by decide +kernel
theorem dX2_pump_49 : decode cX2_pump 49 = .ok (.aload_n 0, 1) := by decide +kernel
theorem dX2_pump_50 : decode cX2_pump 50 = .ok (.getfield 10, 3) := by decide +kernel
theorem dX2_pump_53 : decode cX2_pump 53 = .ok (.invokevirtual 85, 3) := by decide +kernel
theorem dX2_pump_56 : decode cX2_pump 56 = .ok (.aload_n 0, 1) := by decide +kernel
theorem dX2_pump_57 : decode cX2_pump 57 = .ok (.getfield 10, 3) := by decide +kernel
theorem dX2_pump_60 : decode cX2_pump 60 = .ok (.invokevirtual 88, 3) := by decide +kernel
theorem dX2_pump_63 : decode cX2_pump 63 = .ok (.ireturn, 1) := by decide +kernel
theorem dX2_influx_0 : decode cX2_influx 0 = .ok (.iload_n 1, 1) := by decide +kernel
theorem dX2_influx_1 : decode cX2_influx 1 = .ok (.iconst 1, 1) := by decide +kernel
theorem dX2_influx_2 : decode cX2_influx 2 = .ok (.if_icmp .lt 14, 3) := by decide +kernel
theorem dX2_influx_5 : decode cX2_influx 5 = .ok (.iload_n 2, 1) := by decide +kernel
theorem dX2_influx_6 : decode cX2_influx 6 = .ok (.iconst 1, 1) := by decide +kernel
theorem dX2_influx_7 : decode cX2_influx 7 = .ok (.sipush 2500, 3) := by decide +kernel
theorem dX2_influx_10 : decode cX2_influx 10 = .ok (.invokestatic 31, 3) := by decide +kernel
theorem dX2_influx_13 : decode cX2_influx 13 = .ok (.ifCond .ne 10, 3) := by decide +kernel
theorem dX2_influx_16 : decode cX2_influx 16 = .ok (.aload_n 0, 1) := by decide +kernel
theorem dX2_influx_17 : decode cX2_influx 17 = .ok (.bipush (-2), 2) := by decide +kernel
theorem dX2_influx_19 : decode cX2_influx 19 = .ok (.invokevirtual 35, 3) := by decide +kernel
theorem dX2_influx_22 : decode cX2_influx 22 = .ok (.ireturn, 1) := by decide +kernel
theorem dX2_influx_23 : decode cX2_influx 23 = .ok (.iload_n 1, 1) := by decide +kernel
theorem dX2_influx_24 : decode cX2_influx 24 = .ok (.aload_n 0, 1) := by decide +kernel
theorem dX2_influx_25 : decode cX2_influx 25 = .ok (.getfield 10, 3) := by decide +kernel
theorem dX2_influx_28 : decode cX2_influx 28 = .ok (.invokevirtual 61, 3) := by decide +kernel
theorem dX2_influx_31 : decode cX2_influx 31 = .ok (.if_icmp .le 10, 3) := by decide +kernel
theorem dX2_influx_34 : decode cX2_influx 34 = .ok (.aload_n 0, 1) := by decide +kernel
theorem dX2_influx_35 : decode cX2_influx 35 = .ok (.bipush (-3), 2) := by decide +kernel
theorem dX2_influx_37 : decode cX2_influx 37 = .ok (.invokevirtual 35, 3) := by decide +kernel
theorem dX2_influx_40 : decode cX2_influx 40 = .ok (.ireturn, 1) := by decide +kernel
theorem dX2_influx_41 : decode cX2_influx 41 = .ok (.aload_n 0, 1) := by decide +kernel
theorem dX2_influx_42 : decode cX2_influx 42 = .ok (.invokevirtual 39, 3) := by decide +kernel
theorem dX2_influx_45 : decode cX2_influx 45 = .ok (.aload_n 0, 1) := by decide +kernel
theorem dX2_influx_46 : decode cX2_influx 46 = .ok (.getfield 10, 3) := by decide +kernel
theorem dX2_influx_49 : decode cX2_influx 49 = .ok (.iload_n 1, 1) := by decide +kernel
theorem dX2_influx_50 : decode cX2_influx 50 = .ok (.iload_n 2, 1) := by decide +kernel
theorem dX2_influx_51 : decode cX2_influx 51 = .ok (.invokevirtual 91, 3) := by decide +kernel
theorem dX2_influx_54 : decode cX2_influx 54 = .ok (.aload_n 0, 1) := by decide +kernel
theorem dX2_influx_55 : decode cX2_influx 55 = .ok (.getfield 10, 3) := by decide +kernel
theorem dX2_influx_58 : decode cX2_influx 58 = .ok (.invokevirtual 85, 3) := by decide +kernel
theorem dX2_influx_61 : decode cX2_influx 61 = .ok (.aload_n 0, 1) := by decide +kernel
theorem dX2_influx_62 : decode cX2_influx 62 = .ok (.getfield 10, 3) := by decide +kernel
theorem dX2_influx_65 : decode cX2_influx 65 = .ok (.invokevirtual 88, 3) := by decide +kernel
theorem dX2_influx_68 : decode cX2_influx 68 = .ok (.ireturn, 1) := by decide +kernel
theorem dX2_hydrostatic_0 : decode cX2_hydrostatic 0 = .ok (.iload_n 1, 1) := by decide +kernel
theorem dX2_hydrostatic_1 : decode cX2_hydrostatic 1 = .ok (.iconst 0, 1) := by decide +kernel
theorem dX2_hydrostatic_2 : decode cX2_hydrostatic 2 = .ok (.iconst 1, 1) := by decide +kernel
theorem dX2_hydrostatic_3 : decode cX2_hydrostatic 3 = .ok (.invokestatic 31, 3) := by decide +kernel
theorem dX2_hydrostatic_6 : decode cX2_hydrostatic 6 = .ok (.ifCond .ne 10, 3) := by decide +kernel
theorem dX2_hydrostatic_9 : decode cX2_hydrostatic 9 = .ok (.aload_n 0, 1) := by decide +kernel
theorem dX2_hydrostatic_10 : decode cX2_hydrostatic 10 = .ok (.bipush (-2), 2) := by decide +kernel
theorem dX2_hydrostatic_12 : decode cX2_hydrostatic 12 = .ok (.invokevirtual 35, 3) := by decide +kernel
theorem dX2_hydrostatic_15 : decode cX2_hydrostatic 15 = .ok (.ireturn, 1) := by decide +kernel
theorem dX2_hydrostatic_16 : decode cX2_hydrostatic 16 = .ok (.aload_n 0, 1) := by decide +kernel
theorem dX2_hydrostatic_17 : decode cX2_hydrostatic 17 = .ok (.getfield 10, 3) := by decide +kernel
theorem dX2_hydrostatic_20 : decode cX2_hydrostatic 20 = .ok (.iload_n 1, 1) := by decide +kernel
theorem dX2_hydrostatic_21 : decode cX2_hydrostatic 21 = .ok (.invokevirtual 94, 3) := by decide +kernel
theorem dX2_hydrostatic_24 : decode cX2_hydrostatic 24 = .ok (.ireturn, 1) := by decide +kernel
theorem dX2_hydrostaticAbove_0 : decode cX2_hydrostaticAbove 0 = .ok (.iload_n 1, 1) := by decide +kernel
theorem dX2_hydrostaticAbove_1 : decode cX2_hydrostaticAbove 1 = .ok (.iconst 0, 1) := by decide +kernel
theorem dX2_hydrostaticAbove_2 : decode cX2_hydrostaticAbove 2 = .ok (.iconst 1, 1) := by decide +kernel
theorem dX2_hydrostaticAbove_3 : decode cX2_hydrostaticAbove 3 = .ok (.invokestatic 31, 3) := by decide +kernel
theorem dX2_hydrostaticAbove_6 : decode cX2_hydrostaticAbove 6 = .ok (.ifCond .eq 18, 3) := by decide +kernel
theorem dX2_hydrostaticAbove_9 : decode cX2_hydrostaticAbove 9 = .ok (.iload_n 2, 1) := by decide +kernel
theorem dX2_hydrostaticAbove_10 : decode cX2_hydrostaticAbove 10 = .ok (.iconst 0, 1) := by decide +kernel
theorem dX2_hydrostaticAbove_11 : decode cX2_hydrostaticAbove 11 = .ok (.aload_n 0, 1) := by decide +kernel
theorem dX2_hydrostaticAbove_12 : decode cX2_hydrostaticAbove 12 = .ok (.getfield 10, 3) := by decide +kernel
theorem dX2_hydrostaticAbove_15 : decode cX2_hydrostaticAbove 15 = .ok (.getfield 42, 3) := by decide +kernel
theorem dX2_hydrostaticAbove_18 : decode cX2_hydrostaticAbove 18 = .ok (.invokestatic 31, 3) := by decide +kernel
theorem dX2_hydrostaticAbove_21 : decode cX2_hydrostaticAbove 21 = .ok (.ifCond .ne 10, 3) := by decide +kernel
theorem dX2_hydrostaticAbove_24 : decode cX2_hydrostaticAbove 24 = .ok (.aload_n 0, 1) := by decide +kernel
theorem dX2_hydrostaticAbove_25 : decode cX2_hydrostaticAbove 25 = .ok (.bipush (-2), 2) := by decide +kernel
theorem dX2_hydrostaticAbove_27 : decode cX2_hydrostaticAbove 27 = .ok (.invokevirtual 35, 3) := by decide +kernel
theorem dX2_hydrostaticAbove_30 : decode cX2_hydrostaticAbove 30 = .ok (.ireturn, 1) := by decide +kernel
theorem dX2_hydrostaticAbove_31 : decode cX2_hydrostaticAbove 31 = .ok (.aload_n 0, 1) := by decide +kernel
theorem dX2_hydrostaticAbove_32 : decode cX2_hydrostaticAbove 32 = .ok (.getfield 10, 3) := by decide +kernel
theorem dX2_hydrostaticAbove_35 : decode cX2_hydrostaticAbove 35 = .ok (.iload_n 1, 1) := by decide +kernel
theorem dX2_hydrostaticAbove_36 : decode cX2_hydrostaticAbove 36 = .ok (.iload_n 2, 1) := by decide +kernel
theorem dX2_hydrostaticAbove_37 : decode cX2_hydrostaticAbove 37 = .ok (.invokevirtual 97, 3) := by decide +kernel
theorem dX2_hydrostaticAbove_40 : decode cX2_hydrostaticAbove 40 = .ok (.ireturn, 1) := by decide +kernel
theorem dX2_drillPipePressure_0 : decode cX2_drillPipePressure 0 = .ok (.aload_n 0, 1) := by decide +kernel
theorem dX2_drillPipePressure_1 : decode cX2_drillPipePressure 1 = .ok (.getfield 10, 3) := by decide +kernel
theorem dX2_drillPipePressure_4 : decode cX2_drillPipePressure 4 = .ok (.invokevirtual 101, 3) := by decide +kernel
theorem dX2_drillPipePressure_7 : decode cX2_drillPipePressure 7 = .ok (.ireturn, 1) := by decide +kernel
theorem dX2_casingPressure_0 : decode cX2_casingPressure 0 = .ok (.aload_n 0, 1) := by decide +kernel
theorem dX2_casingPressure_1 : decode cX2_casingPressure 1 = .ok (.getfield 10, 3) := by decide +kernel
theorem dX2_casingPressure_4 : decode cX2_casingPressure 4 = .ok (.invokevirtual 88, 3) := by decide +kernel
theorem dX2_casingPressure_7 : decode cX2_casingPressure 7 = .ok (.ireturn, 1) := by decide +kernel
theorem dX2_standpipePressure_0 : decode cX2_standpipePressure 0 = .ok (.aload_n 0, 1) := by decide +kernel
theorem dX2_standpipePressure_1 : decode cX2_standpipePressure 1 = .ok (.getfield 10, 3) := by decide +kernel
theorem dX2_standpipePressure_4 : decode cX2_standpipePressure 4 = .ok (.invokevirtual 104, 3) := by decide +kernel
theorem dX2_standpipePressure_7 : decode cX2_standpipePressure 7 = .ok (.ireturn, 1) := by decide +kernel
theorem dX2_shoePressure_0 : decode cX2_shoePressure 0 = .ok (.aload_n 0, 1) := by decide +kernel
theorem dX2_shoePressure_1 : decode cX2_shoePressure 1 = .ok (.getfield 10, 3) := by decide +kernel
theorem dX2_shoePressure_4 : decode cX2_shoePressure 4 = .ok (.invokevirtual 107, 3) := by decide +kernel
theorem dX2_shoePressure_7 : decode cX2_shoePressure 7 = .ok (.ireturn, 1) := by decide +kernel
theorem dX2_allowedCasingPressure_0 : decode cX2_allowedCasingPressure 0 = .ok (.aload_n 0, 1) := by decide +kernel
theorem dX2_allowedCasingPressure_1 : decode cX2_allowedCasingPressure 1 = .ok (.getfield 10, 3) := by decide +kernel
theorem dX2_allowedCasingPressure_4 : decode cX2_allowedCasingPressure 4 = .ok (.getfield 74, 3) := by decide +kernel
theorem dX2_allowedCasingPressure_7 : decode cX2_allowedCasingPressure 7 = .ok (.aload_n 0, 1) := by decide +kernel
theorem dX2_allowedCasingPressure_8 : decode cX2_allowedCasingPressure 8 = .ok (.getfield 10, 3) := by decide +kernel
theorem dX2_allowedCasingPressure_11 : decode cX2_allowedCasingPressure 11 = .ok (.iconst 1, 1) := by decide +kernel
theorem dX2_allowedCasingPressure_12 : decode cX2_allowedCasingPressure 12 = .ok (.aload_n 0, 1) := by decide +kernel
theorem dX2_allowedCasingPressure_13 : decode cX2_allowedCasingPressure 13 = .ok (.getfield 10, 3) := by decide +kernel
theorem dX2_allowedCasingPressure_16 : decode cX2_allowedCasingPressure 16 = .ok (.getfield 51, 3) := by decide +kernel
theorem dX2_allowedCasingPressure_19 : decode cX2_allowedCasingPressure 19 = .ok (.invokevirtual 97, 3) := by decide +kernel
theorem dX2_allowedCasingPressure_22 : decode cX2_allowedCasingPressure 22 = .ok (.isub, 1) := by decide +kernel
theorem dX2_allowedCasingPressure_23 : decode cX2_allowedCasingPressure 23 = .ok (.ireturn, 1) := by decide +kernel
theorem dX2_killDensity_0 : decode cX2_killDensity 0 = .ok (.aload_n 0, 1) := by decide +kernel
theorem dX2_killDensity_1 : decode cX2_killDensity 1 = .ok (.getfield 10, 3) := by decide +kernel
theorem dX2_killDensity_4 : decode cX2_killDensity 4 = .ok (.invokevirtual 110, 3) := by decide +kernel
theorem dX2_killDensity_7 : decode cX2_killDensity 7 = .ok (.istore_n 1, 1) := by decide +kernel
theorem dX2_killDensity_8 : decode cX2_killDensity 8 = .ok (.iload_n 1, 1) := by decide +kernel
theorem dX2_killDensity_9 : decode cX2_killDensity 9 = .ok (.bipush (-4), 2) := by decide +kernel
theorem dX2_killDensity_11 : decode cX2_killDensity 11 = .ok (.if_icmp .ne 12, 3) := by decide +kernel
theorem dX2_killDensity_14 : decode cX2_killDensity 14 = .ok (.aload_n 0, 1) := by decide +kernel
theorem dX2_killDensity_15 : decode cX2_killDensity 15 = .ok (.bipush (-4), 2) := by decide +kernel
theorem dX2_killDensity_17 : decode cX2_killDensity 17 = .ok (.invokevirtual 35, 3) := by decide +kernel
theorem dX2_killDensity_20 : decode cX2_killDensity 20 = .ok (.goto 4, 3) := by decide +kernel
theorem dX2_killDensity_23 : decode cX2_killDensity 23 = .ok (.iload_n 1, 1) := by decide +kernel
theorem dX2_killDensity_24 : decode cX2_killDensity 24 = .ok (.ireturn, 1) := by decide +kernel
theorem dX2_killShoePressure_0 : decode cX2_killShoePressure 0 = .ok (.iload_n 1, 1) := by decide +kernel
theorem dX2_killShoePressure_1 : decode cX2_killShoePressure 1 = .ok (.iconst 0, 1) := by decide +kernel
theorem dX2_killShoePressure_2 : decode cX2_killShoePressure 2 = .ok (.iconst 1, 1) := by decide +kernel
theorem dX2_killShoePressure_3 : decode cX2_killShoePressure 3 = .ok (.invokestatic 31, 3) := by decide +kernel
theorem dX2_killShoePressure_6 : decode cX2_killShoePressure 6 = .ok (.ifCond .eq 15, 3) := by decide +kernel
theorem dX2_killShoePressure_9 : decode cX2_killShoePressure 9 = .ok (.iload_n 2, 1) := by decide +kernel
theorem dX2_killShoePressure_10 : decode cX2_killShoePressure 10 = .ok (.bipush 100, 2) := by decide +kernel
theorem dX2_killShoePressure_12 : decode cX2_killShoePressure 12 = .ok (.sipush 9000, 3) := by decide +kernel
theorem dX2_killShoePressure_15 : decode cX2_killShoePressure 15 = .ok (.invokestatic 31, 3) := by decide +kernel
theorem dX2_killShoePressure_18 : decode cX2_killShoePressure 18 = .ok (.ifCond .ne 10, 3) := by decide +kernel
theorem dX2_killShoePressure_21 : decode cX2_killShoePressure 21 = .ok (.aload_n 0, 1) := by decide +kernel
theorem dX2_killShoePressure_22 : decode cX2_killShoePressure 22 = .ok (.bipush (-2), 2) := by decide +kernel
theorem dX2_killShoePressure_24 : decode cX2_killShoePressure 24 = .ok (.invokevirtual 35, 3) := by decide +kernel
theorem dX2_killShoePressure_27 : decode cX2_killShoePressure 27 = .ok (.ireturn, 1) := by decide +kernel
theorem dX2_killShoePressure_28 : decode cX2_killShoePressure 28 = .ok (.aload_n 0, 1) := by decide +kernel
theorem dX2_killShoePressure_29 : decode cX2_killShoePressure 29 = .ok (.getfield 10, 3) := by decide +kernel
theorem dX2_killShoePressure_32 : decode cX2_killShoePressure 32 = .ok (.iload_n 2, 1) := by decide +kernel
theorem dX2_killShoePressure_33 : decode cX2_killShoePressure 33 = .ok (.invokevirtual 77, 3) := by decide +kernel
theorem dX2_killShoePressure_36 : decode cX2_killShoePressure 36 = .ok (.ifCond .ne 10, 3) := by decide +kernel
theorem dX2_killShoePressure_39 : decode cX2_killShoePressure 39 = .ok (.aload_n 0, 1) := by decide +kernel
theorem dX2_killShoePressure_40 : decode cX2_killShoePressure 40 = .ok (.bipush (-3), 2) := by decide +kernel
theorem dX2_killShoePressure_42 : decode cX2_killShoePressure 42 = .ok (.invokevirtual 35, 3) := by decide +kernel
theorem dX2_killShoePressure_45 : decode cX2_killShoePressure 45 = .ok (.ireturn, 1) := by decide +kernel
theorem dX2_killShoePressure_46 : decode cX2_killShoePressure 46 = .ok (.aload_n 0, 1) := by decide +kernel
theorem dX2_killShoePressure_47 : decode cX2_killShoePressure 47 = .ok (.getfield 10, 3) := by decide +kernel
theorem dX2_killShoePressure_50 : decode cX2_killShoePressure 50 = .ok (.invokevirtual 110, 3) := by decide +kernel
theorem dX2_killShoePressure_53 : decode cX2_killShoePressure 53 = .ok (.istore_n 3, 1) := by decide +kernel
theorem dX2_killShoePressure_54 : decode cX2_killShoePressure 54 = .ok (.iload_n 3, 1) := by decide +kernel
theorem dX2_killShoePressure_55 : decode cX2_killShoePressure 55 = .ok (.bipush (-4), 2) := by decide +kernel
theorem dX2_killShoePressure_57 : decode cX2_killShoePressure 57 = .ok (.if_icmp .ne 10, 3) := by decide +kernel
theorem dX2_killShoePressure_60 : decode cX2_killShoePressure 60 = .ok (.aload_n 0, 1) := by decide +kernel
theorem dX2_killShoePressure_61 : decode cX2_killShoePressure 61 = .ok (.bipush (-4), 2) := by decide +kernel
theorem dX2_killShoePressure_63 : decode cX2_killShoePressure 63 = .ok (.invokevirtual 35, 3) := by decide +kernel
theorem dX2_killShoePressure_66 : decode cX2_killShoePressure 66 = .ok (.ireturn, 1) := by decide +kernel
theorem dX2_killShoePressure_67 : decode cX2_killShoePressure 67 = .ok (.aload_n 0, 1) := by decide +kernel
theorem dX2_killShoePressure_68 : decode cX2_killShoePressure 68 = .ok (.getfield 16, 3) := by decide +kernel
theorem dX2_killShoePressure_71 : decode cX2_killShoePressure 71 = .ok (.aload_n 0, 1) := by decide +kernel
theorem dX2_killShoePressure_72 : decode cX2_killShoePressure 72 = .ok (.getfield 10, 3) := by decide +kernel
theorem dX2_killShoePressure_75 : decode cX2_killShoePressure 75 = .ok (.invokevirtual 113, 3) := by decide +kernel
theorem dX2_killShoePressure_78 : decode cX2_killShoePressure 78 = .ok (.aload_n 0, 1) := by decide +kernel
theorem dX2_killShoePressure_79 : decode cX2_killShoePressure 79 = .ok (.getfield 16, 3) := by decide +kernel
theorem dX2_killShoePressure_82 : decode cX2_killShoePressure 82 = .ok (.iconst 0, 1) := by decide +kernel
theorem dX2_killShoePressure_83 : decode cX2_killShoePressure 83 = .ok (.putfield 117, 3) := by decide +kernel
theorem dX2_killShoePressure_86 : decode cX2_killShoePressure 86 = .ok (.iload_n 1, 1) := by decide +kernel
theorem dX2_killShoePressure_87 : decode cX2_killShoePressure 87 = .ok (.ifCond .ne 25, 3) := by decide +kernel
theorem dX2_killShoePressure_90 : decode cX2_killShoePressure 90 = .ok (.aload_n 0, 1) := by decide +kernel
theorem dX2_killShoePressure_91 : decode cX2_killShoePressure 91 = .ok (.getfield 16, 3) := by decide +kernel
theorem dX2_killShoePressure_94 : decode cX2_killShoePressure 94 = .ok (.aload_n 0, 1) := by decide +kernel
theorem dX2_killShoePressure_95 : decode cX2_killShoePressure 95 = .ok (.getfield 16, 3) := by decide +kernel
theorem dX2_killShoePressure_98 : decode cX2_killShoePressure 98 = .ok (.invokevirtual 61, 3) := by decide +kernel
theorem dX2_killShoePressure_101 : decode cX2_killShoePressure 101 = .ok (.iload_n 2, 1) := by decide +kernel
theorem dX2_killShoePressure_102 : decode cX2_killShoePressure 102 = .ok (.aload_n 0, 1) := by decide +kernel
theorem dX2_killShoePressure_103 : decode cX2_killShoePressure 103 = .ok (.getfield 16, 3) := by decide +kernel
theorem dX2_killShoePressure_106 : decode cX2_killShoePressure 106 = .ok (.getfield 64, 3) := by decide +kernel
theorem dX2_killShoePressure_109 : decode cX2_killShoePressure 109 = .ok (.invokevirtual 120, 3) := by decide +kernel
theorem dX2_killShoePressure_112 : decode cX2_killShoePressure 112 = .ok (.aload_n 0, 1) := by decide +kernel
theorem dX2_killShoePressure_113 : decode cX2_killShoePressure 113 = .ok (.getfield 16, 3) := by decide +kernel
theorem dX2_killShoePressure_116 : decode cX2_killShoePressure 116 = .ok (.aload_n 0, 1) := by decide +kernel
theorem dX2_killShoePressure_117 : decode cX2_killShoePressure 117 = .ok (.getfield 16, 3) := by decide +kernel
theorem dX2_killShoePressure_120 : decode cX2_killShoePressure 120 = .ok (.invokevirtual 57, 3) := by decide +kernel
theorem dX2_killShoePressure_123 : decode cX2_killShoePressure 123 = .ok (.aload_n 0, 1) := by decide +kernel
theorem dX2_killShoePressure_124 : decode cX2_killShoePressure 124 = .ok (.getfield 16, 3) := by decide +kernel
theorem dX2_killShoePressure_127 : decode cX2_killShoePressure 127 = .ok (.invokevirtual 61, 3) := by decide +kernel
theorem dX2_killShoePressure_130 : decode cX2_killShoePressure 130 = .ok (.iadd, 1) := by decide +kernel
theorem dX2_killShoePressure_131 : decode cX2_killShoePressure 131 = .ok (.iload_n 2, 1) := by decide +kernel
theorem dX2_killShoePressure_132 : decode cX2_killShoePressure 132 = .ok (.iload_n 3, 1) := by decide +kernel
theorem dX2_killShoePressure_133 : decode cX2_killShoePressure 133 = .ok (.invokevirtual 120, 3) := by decide +kernel
theorem dX2_killShoePressure_136 : decode cX2_killShoePressure 136 = .ok (.aload_n 0, 1) := by decide +kernel
theorem dX2_killShoePressure_137 : decode cX2_killShoePressure 137 = .ok (.getfield 16, 3) := by decide +kernel
theorem dX2_killShoePressure_140 : decode cX2_killShoePressure 140 = .ok (.getfield 117, 3) := by decide +kernel
theorem dX2_killShoePressure_143 : decode cX2_killShoePressure 143 = .ok (.ireturn, 1) := by decide +kernel
theorem dX2_schedule_0 : decode cX2_schedule 0 = .ok (.iload_n 1, 1) := by decide +kernel
theorem dX2_schedule_1 : decode cX2_schedule 1 = .ok (.iconst 0, 1) := by decide +kernel
theorem dX2_schedule_2 : decode cX2_schedule 2 = .ok (.bipush 100, 2) := by decide +kernel
theorem dX2_schedule_4 : decode cX2_schedule 4 = .ok (.invokestatic 31, 3) := by decide +kernel
theorem dX2_schedule_7 : decode cX2_schedule 7 = .ok (.ifCond .ne 10, 3) := by decide +kernel
theorem dX2_schedule_10 : decode cX2_schedule 10 = .ok (.aload_n 0, 1) := by decide +kernel
theorem dX2_schedule_11 : decode cX2_schedule 11 = .ok (.bipush (-2), 2) := by decide +kernel
theorem dX2_schedule_13 : decode cX2_schedule 13 = .ok (.invokevirtual 35, 3) := by decide +kernel
theorem dX2_schedule_16 : decode cX2_schedule 16 = .ok (.ireturn, 1) := by decide +kernel
theorem dX2_schedule_17 : decode cX2_schedule 17 = .ok (.aload_n 0, 1) := by decide +kernel
theorem dX2_schedule_18 : decode cX2_schedule 18 = .ok (.getfield 10, 3) := by decide +kernel
theorem dX2_schedule_21 : decode cX2_schedule 21 = .ok (.invokevirtual 110, 3) := by decide +kernel
theorem dX2_schedule_24 : decode cX2_schedule 24 = .ok (.istore_n 2, 1) := by decide +kernel
theorem dX2_schedule_25 : decode cX2_schedule 25 = .ok (.iload_n 2, 1) := by decide +kernel
theorem dX2_schedule_26 : decode cX2_schedule 26 = .ok (.bipush (-4), 2) := by decide +kernel
theorem dX2_schedule_28 : decode cX2_schedule 28 = .ok (.if_icmp .ne 10, 3) := by decide +kernel
theorem dX2_schedule_31 : decode cX2_schedule 31 = .ok (.aload_n 0, 1) := by decide +kernel
theorem dX2_schedule_32 : decode cX2_schedule 32 = .ok (.bipush (-4), 2) := by decide +kernel
theorem dX2_schedule_34 : decode cX2_schedule 34 = .ok (.invokevirtual 35, 3) := by decide +kernel
theorem dX2_schedule_37 : decode cX2_schedule 37 = .ok (.ireturn, 1) := by decide +kernel
theorem dX2_schedule_38 : decode cX2_schedule 38 = .ok (.aload_n 0, 1) := by decide +kernel
theorem dX2_schedule_39 : decode cX2_schedule 39 = .ok (.getfield 10, 3) := by decide +kernel
theorem dX2_schedule_42 : decode cX2_schedule 42 = .ok (.invokevirtual 104, 3) := by decide +kernel
theorem dX2_schedule_45 : decode cX2_schedule 45 = .ok (.i2l, 1) := by decide +kernel
theorem dX2_schedule_46 : decode cX2_schedule 46 = .ok (.lstore_n 3, 1) := by decide +kernel
theorem dX2_schedule_47 : decode cX2_schedule 47 = .ok (.aload_n 0, 1) := by decide +kernel
theorem dX2_schedule_48 : decode cX2_schedule 48 = .ok (.getfield 10, 3) := by decide +kernel
theorem dX2_schedule_51 : decode cX2_schedule 51 = .ok (.getfield 71, 3) := by decide +kernel
theorem dX2_schedule_54 : decode cX2_schedule 54 = .ok (.i2l, 1) := by decide +kernel
theorem dX2_schedule_55 : decode cX2_schedule 55 = .ok (.iload_n 2, 1) := by decide +kernel
theorem dX2_schedule_56 : decode cX2_schedule 56 = .ok (.i2l, 1) := by decide +kernel
theorem dX2_schedule_57 : decode cX2_schedule 57 = .ok (.lmul, 1) := by decide +kernel
theorem dX2_schedule_58 : decode cX2_schedule 58 = .ok (.iconst 1, 1) := by decide +kernel
theorem dX2_schedule_59 : decode cX2_schedule 59 = .ok (.aload_n 0, 1) := by decide +kernel
theorem dX2_schedule_60 : decode cX2_schedule 60 = .ok (.getfield 10, 3) := by decide +kernel
theorem dX2_schedule_63 : decode cX2_schedule 63 = .ok (.getfield 64, 3) := by decide +kernel
theorem dX2_schedule_66 : decode cX2_schedule 66 = .ok (.invokestatic 124, 3) := by decide +kernel
theorem dX2_schedule_69 : decode cX2_schedule 69 = .ok (.i2l, 1) := by decide +kernel
theorem dX2_schedule_70 : decode cX2_schedule 70 = .ok (.ldiv, 1) := by decide +kernel
theorem dX2_schedule_71 : decode cX2_schedule 71 = .ok (.lstore 5, 2) := by decide +kernel
theorem dX2_schedule_73 : decode cX2_schedule 73 = .ok (.lload_n 3, 1) := by decide +kernel
theorem dX2_schedule_74 : decode cX2_schedule 74 = .ok (.lload 5, 2) := by decide +kernel
theorem dX2_schedule_76 : decode cX2_schedule 76 = .ok (.lload_n 3, 1) := by decide +kernel
theorem dX2_schedule_77 : decode cX2_schedule 77 = .ok (.lsub, 1) := by decide +kernel
theorem dX2_schedule_78 : decode cX2_schedule 78 = .ok (.iload_n 1, 1) := by decide +kernel
theorem dX2_schedule_79 : decode cX2_schedule 79 = .ok (.i2l, 1) := by decide +kernel
theorem dX2_schedule_80 : decode cX2_schedule 80 = .ok (.lmul, 1) := by decide +kernel
theorem dX2_schedule_81 : decode cX2_schedule 81 = .ok (.ldc2_w 129, 3) := by decide +kernel
theorem dX2_schedule_84 : decode cX2_schedule 84 = .ok (.ldiv, 1) := by decide +kernel
theorem dX2_schedule_85 : decode cX2_schedule 85 = .ok (.ladd, 1) := by decide +kernel
theorem dX2_schedule_86 : decode cX2_schedule 86 = .ok (.l2i, 1) := by decide +kernel
theorem dX2_schedule_87 : decode cX2_schedule 87 = .ok (.ireturn, 1) := by decide +kernel
theorem dX2_strokesToBit_0 : decode cX2_strokesToBit 0 = .ok (.iload_n 1, 1) := by decide +kernel
theorem dX2_strokesToBit_1 : decode cX2_strokesToBit 1 = .ok (.iconst 1, 1) := by decide +kernel
theorem dX2_strokesToBit_2 : decode cX2_strokesToBit 2 = .ok (.bipush 100, 2) := by decide +kernel
theorem dX2_strokesToBit_4 : decode cX2_strokesToBit 4 = .ok (.invokestatic 31, 3) := by decide +kernel
theorem dX2_strokesToBit_7 : decode cX2_strokesToBit 7 = .ok (.ifCond .ne 10, 3) := by decide +kernel
theorem dX2_strokesToBit_10 : decode cX2_strokesToBit 10 = .ok (.aload_n 0, 1) := by decide +kernel
theorem dX2_strokesToBit_11 : decode cX2_strokesToBit 11 = .ok (.bipush (-2), 2) := by decide +kernel
theorem dX2_strokesToBit_13 : decode cX2_strokesToBit 13 = .ok (.invokevirtual 35, 3) := by decide +kernel
theorem dX2_strokesToBit_16 : decode cX2_strokesToBit 16 = .ok (.ireturn, 1) := by decide +kernel
theorem dX2_strokesToBit_17 : decode cX2_strokesToBit 17 = .ok (.aload_n 0, 1) := by decide +kernel
theorem dX2_strokesToBit_18 : decode cX2_strokesToBit 18 = .ok (.getfield 10, 3) := by decide +kernel
theorem dX2_strokesToBit_21 : decode cX2_strokesToBit 21 = .ok (.invokevirtual 57, 3) := by decide +kernel
theorem dX2_strokesToBit_24 : decode cX2_strokesToBit 24 = .ok (.iload_n 1, 1) := by decide +kernel
theorem dX2_strokesToBit_25 : decode cX2_strokesToBit 25 = .ok (.invokestatic 131, 3) := by decide +kernel
theorem dX2_strokesToBit_28 : decode cX2_strokesToBit 28 = .ok (.ireturn, 1) := by decide +kernel
theorem dX2_layers_0 : decode cX2_layers 0 = .ok (.iload_n 1, 1) := by decide +kernel
theorem dX2_layers_1 : decode cX2_layers 1 = .ok (.iconst 0, 1) := by decide +kernel
theorem dX2_layers_2 : decode cX2_layers 2 = .ok (.iconst 1, 1) := by decide +kernel
theorem dX2_layers_3 : decode cX2_layers 3 = .ok (.invokestatic 31, 3) := by decide +kernel
theorem dX2_layers_6 : decode cX2_layers 6 = .ok (.ifCond .ne 10, 3) := by decide +kernel
theorem dX2_layers_9 : decode cX2_layers 9 = .ok (.aload_n 0, 1) := by decide +kernel
theorem dX2_layers_10 : decode cX2_layers 10 = .ok (.bipush (-2), 2) := by decide +kernel
theorem dX2_layers_12 : decode cX2_layers 12 = .ok (.invokevirtual 35, 3) := by decide +kernel
theorem dX2_layers_15 : decode cX2_layers 15 = .ok (.ireturn, 1) := by decide +kernel
theorem dX2_layers_16 : decode cX2_layers 16 = .ok (.aload_n 0, 1) := by decide +kernel
theorem dX2_layers_17 : decode cX2_layers 17 = .ok (.getfield 10, 3) := by decide +kernel
theorem dX2_layers_20 : decode cX2_layers 20 = .ok (.iload_n 1, 1) := by decide +kernel
theorem dX2_layers_21 : decode cX2_layers 21 = .ok (.invokevirtual 134, 3) := by decide +kernel
theorem dX2_layers_24 : decode cX2_layers 24 = .ok (.getfield 138, 3) := by decide +kernel
theorem dX2_layers_27 : decode cX2_layers 27 = .ok (.ireturn, 1) := by decide +kernel
theorem dX2_layerVolume_0 : decode cX2_layerVolume 0 = .ok (.aload_n 0, 1) := by decide +kernel
theorem dX2_layerVolume_1 : decode cX2_layerVolume 1 = .ok (.iload_n 1, 1) := by decide +kernel
theorem dX2_layerVolume_2 : decode cX2_layerVolume 2 = .ok (.iload_n 2, 1) := by decide +kernel
theorem dX2_layerVolume_3 : decode cX2_layerVolume 3 = .ok (.invokevirtual 143, 3) := by decide +kernel
theorem dX2_layerVolume_6 : decode cX2_layerVolume 6 = .ok (.istore_n 3, 1) := by decide +kernel
theorem dX2_layerVolume_7 : decode cX2_layerVolume 7 = .ok (.iload_n 3, 1) := by decide +kernel
theorem dX2_layerVolume_8 : decode cX2_layerVolume 8 = .ok (.ifCond .eq 9, 3) := by decide +kernel
theorem dX2_layerVolume_11 : decode cX2_layerVolume 11 = .ok (.aload_n 0, 1) := by decide +kernel
theorem dX2_layerVolume_12 : decode cX2_layerVolume 12 = .ok (.iload_n 3, 1) := by decide +kernel
theorem dX2_layerVolume_13 : decode cX2_layerVolume 13 = .ok (.invokevirtual 35, 3) := by decide +kernel
theorem dX2_layerVolume_16 : decode cX2_layerVolume 16 = .ok (.ireturn, 1) := by decide +kernel
theorem dX2_layerVolume_17 : decode cX2_layerVolume 17 = .ok (.aload_n 0, 1) := by decide +kernel
theorem dX2_layerVolume_18 : decode cX2_layerVolume 18 = .ok (.getfield 10, 3) := by decide +kernel
theorem dX2_layerVolume_21 : decode cX2_layerVolume 21 = .ok (.iload_n 1, 1) := by decide +kernel
theorem dX2_layerVolume_22 : decode cX2_layerVolume 22 = .ok (.invokevirtual 134, 3) := by decide +kernel
theorem dX2_layerVolume_25 : decode cX2_layerVolume 25 = .ok (.iload_n 2, 1) := by decide +kernel
theorem dX2_layerVolume_26 : decode cX2_layerVolume 26 = .ok (.invokevirtual 146, 3) := by decide +kernel
theorem dX2_layerVolume_29 : decode cX2_layerVolume 29 = .ok (.ireturn, 1) := by decide +kernel
theorem dX2_layerDensity_0 : decode cX2_layerDensity 0 = .ok (.aload_n 0, 1) := by decide +kernel
theorem dX2_layerDensity_1 : decode cX2_layerDensity 1 = .ok (.iload_n 1, 1) := by decide +kernel
theorem dX2_layerDensity_2 : decode cX2_layerDensity 2 = .ok (.iload_n 2, 1) := by decide +kernel
theorem dX2_layerDensity_3 : decode cX2_layerDensity 3 = .ok (.invokevirtual 143, 3) := by decide +kernel
theorem dX2_layerDensity_6 : decode cX2_layerDensity 6 = .ok (.istore_n 3, 1) := by decide +kernel
theorem dX2_layerDensity_7 : decode cX2_layerDensity 7 = .ok (.iload_n 3, 1) := by decide +kernel
theorem dX2_layerDensity_8 : decode cX2_layerDensity 8 = .ok (.ifCond .eq 9, 3) := by decide +kernel
theorem dX2_layerDensity_11 : decode cX2_layerDensity 11 = .ok (.aload_n 0, 1) := by decide +kernel
theorem dX2_layerDensity_12 : decode cX2_layerDensity 12 = .ok (.iload_n 3, 1) := by decide +kernel
theorem dX2_layerDensity_13 : decode cX2_layerDensity 13 = .ok (.invokevirtual 35, 3) := by decide +kernel
theorem dX2_layerDensity_16 : decode cX2_layerDensity 16 = .ok (.ireturn, 1) := by decide +kernel
theorem dX2_layerDensity_17 : decode cX2_layerDensity 17 = .ok (.aload_n 0, 1) := by decide +kernel
theorem dX2_layerDensity_18 : decode cX2_layerDensity 18 = .ok (.getfield 10, 3) := by decide +kernel
theorem dX2_layerDensity_21 : decode cX2_layerDensity 21 = .ok (.iload_n 1, 1) := by decide +kernel
theorem dX2_layerDensity_22 : decode cX2_layerDensity 22 = .ok (.invokevirtual 134, 3) := by decide +kernel
theorem dX2_layerDensity_25 : decode cX2_layerDensity 25 = .ok (.iload_n 2, 1) := by decide +kernel
theorem dX2_layerDensity_26 : decode cX2_layerDensity 26 = .ok (.invokevirtual 149, 3) := by decide +kernel
theorem dX2_layerDensity_29 : decode cX2_layerDensity 29 = .ok (.ireturn, 1) := by decide +kernel
theorem dX2_gain_0 : decode cX2_gain 0 = .ok (.aload_n 0, 1) := by decide +kernel
theorem dX2_gain_1 : decode cX2_gain 1 = .ok (.getfield 10, 3) := by decide +kernel
theorem dX2_gain_4 : decode cX2_gain 4 = .ok (.getfield 152, 3) := by decide +kernel
theorem dX2_gain_7 : decode cX2_gain 7 = .ok (.ireturn, 1) := by decide +kernel
theorem dX2_breaks_0 : decode cX2_breaks 0 = .ok (.aload_n 0, 1) := by decide +kernel
theorem dX2_breaks_1 : decode cX2_breaks 1 = .ok (.getfield 10, 3) := by decide +kernel
theorem dX2_breaks_4 : decode cX2_breaks 4 = .ok (.getfield 155, 3) := by decide +kernel
theorem dX2_breaks_7 : decode cX2_breaks 7 = .ok (.ireturn, 1) := by decide +kernel
theorem dX2_greatestShoePressure_0 : decode cX2_greatestShoePressure 0 = .ok (.aload_n 0, 1) := by decide +kernel
theorem dX2_greatestShoePressure_1 : decode cX2_greatestShoePressure 1 = .ok (.getfield 10, 3) := by decide +kernel
theorem dX2_greatestShoePressure_4 : decode cX2_greatestShoePressure 4 = .ok (.getfield 117, 3) := by decide +kernel
theorem dX2_greatestShoePressure_7 : decode cX2_greatestShoePressure 7 = .ok (.ireturn, 1) := by decide +kernel
theorem dX2_undo_0 : decode cX2_undo 0 = .ok (.aload_n 0, 1) := by decide +kernel
theorem dX2_undo_1 : decode cX2_undo 1 = .ok (.getfield 23, 3) := by decide +kernel
theorem dX2_undo_4 : decode cX2_undo 4 = .ok (.iconst 1, 1) := by decide +kernel
theorem dX2_undo_5 : decode cX2_undo 5 = .ok (.if_icmp .ge 10, 3) := by decide +kernel
theorem dX2_undo_8 : decode cX2_undo 8 = .ok (.aload_n 0, 1) := by decide +kernel
theorem dX2_undo_9 : decode cX2_undo 9 = .ok (.bipush (-5), 2) := by decide +kernel
theorem dX2_undo_11 : decode cX2_undo 11 = .ok (.invokevirtual 35, 3) := by decide +kernel
theorem dX2_undo_14 : decode cX2_undo 14 = .ok (.ireturn, 1) := by decide +kernel
theorem dX2_undo_15 : decode cX2_undo 15 = .ok (.aload_n 0, 1) := by decide +kernel
theorem dX2_undo_16 : decode cX2_undo 16 = .ok (.dup, 1) := by decide +kernel
theorem dX2_undo_17 : decode cX2_undo 17 = .ok (.getfield 23, 3) := by decide +kernel
theorem dX2_undo_20 : decode cX2_undo 20 = .ok (.iconst 1, 1) := by decide +kernel
theorem dX2_undo_21 : decode cX2_undo 21 = .ok (.isub, 1) := by decide +kernel
theorem dX2_undo_22 : decode cX2_undo 22 = .ok (.putfield 23, 3) := by decide +kernel
theorem dX2_undo_25 : decode cX2_undo 25 = .ok (.aload_n 0, 1) := by decide +kernel
theorem dX2_undo_26 : decode cX2_undo 26 = .ok (.getfield 19, 3) := by decide +kernel
theorem dX2_undo_29 : decode cX2_undo 29 = .ok (.aload_n 0, 1) := by decide +kernel
theorem dX2_undo_30 : decode cX2_undo 30 = .ok (.getfield 23, 3) := by decide +kernel
theorem dX2_undo_33 : decode cX2_undo 33 = .ok (.aaload, 1) := by decide +kernel
theorem dX2_undo_34 : decode cX2_undo 34 = .ok (.astore_n 1, 1) := by decide +kernel
theorem dX2_undo_35 : decode cX2_undo 35 = .ok (.aload_n 0, 1) := by decide +kernel
theorem dX2_undo_36 : decode cX2_undo 36 = .ok (.getfield 19, 3) := by decide +kernel
theorem dX2_undo_39 : decode cX2_undo 39 = .ok (.aload_n 0, 1) := by decide +kernel
theorem dX2_undo_40 : decode cX2_undo 40 = .ok (.getfield 23, 3) := by decide +kernel
theorem dX2_undo_43 : decode cX2_undo 43 = .ok (.aload_n 0, 1) := by decide +kernel
theorem dX2_undo_44 : decode cX2_undo 44 = .ok (.getfield 10, 3) := by decide +kernel
theorem dX2_undo_47 : decode cX2_undo 47 = .ok (.aastore, 1) := by decide +kernel
theorem dX2_undo_48 : decode cX2_undo 48 = .ok (.aload_n 0, 1) := by decide +kernel
theorem dX2_undo_49 : decode cX2_undo 49 = .ok (.aload_n 1, 1) := by decide +kernel
theorem dX2_undo_50 : decode cX2_undo 50 = .ok (.putfield 10, 3) := by decide +kernel
theorem dX2_undo_53 : decode cX2_undo 53 = .ok (.aload_n 0, 1) := by decide +kernel
theorem dX2_undo_54 : decode cX2_undo 54 = .ok (.getfield 23, 3) := by decide +kernel
theorem dX2_undo_57 : decode cX2_undo 57 = .ok (.ireturn, 1) := by decide +kernel
theorem dX2_errorCount_0 : decode cX2_errorCount 0 = .ok (.iload_n 1, 1) := by decide +kernel
theorem dX2_errorCount_1 : decode cX2_errorCount 1 = .ok (.bipush (-5), 2) := by decide +kernel
theorem dX2_errorCount_3 : decode cX2_errorCount 3 = .ok (.bipush (-2), 2) := by decide +kernel
theorem dX2_errorCount_5 : decode cX2_errorCount 5 = .ok (.invokestatic 31, 3) := by decide +kernel
theorem dX2_errorCount_8 : decode cX2_errorCount 8 = .ok (.ifCond .ne 10, 3) := by decide +kernel
theorem dX2_errorCount_11 : decode cX2_errorCount 11 = .ok (.aload_n 0, 1) := by decide +kernel
theorem dX2_errorCount_12 : decode cX2_errorCount 12 = .ok (.bipush (-2), 2) := by decide +kernel
theorem dX2_errorCount_14 : decode cX2_errorCount 14 = .ok (.invokevirtual 35, 3) := by decide +kernel
theorem dX2_errorCount_17 : decode cX2_errorCount 17 = .ok (.ireturn, 1) := by decide +kernel
theorem dX2_errorCount_18 : decode cX2_errorCount 18 = .ok (.aload_n 0, 1) := by decide +kernel
theorem dX2_errorCount_19 : decode cX2_errorCount 19 = .ok (.getfield 27, 3) := by decide +kernel
theorem dX2_errorCount_22 : decode cX2_errorCount 22 = .ok (.bipush (-2), 2) := by decide +kernel
theorem dX2_errorCount_24 : decode cX2_errorCount 24 = .ok (.iload_n 1, 1) := by decide +kernel
theorem dX2_errorCount_25 : decode cX2_errorCount 25 = .ok (.isub, 1) := by decide +kernel
theorem dX2_errorCount_26 : decode cX2_errorCount 26 = .ok (.iaload, 1) := by decide +kernel
theorem dX2_errorCount_27 : decode cX2_errorCount 27 = .ok (.ireturn, 1) := by decide +kernel
theorem dX2_digest_0 : decode cX2_digest 0 = .ok (.ldc2_w 158, 3) := by decide +kernel
theorem dX2_digest_3 : decode cX2_digest 3 = .ok (.lstore_n 1, 1) := by decide +kernel
theorem dX2_digest_4 : decode cX2_digest 4 = .ok (.iconst 0, 1) := by decide +kernel
theorem dX2_digest_5 : decode cX2_digest 5 = .ok (.istore_n 3, 1) := by decide +kernel
theorem dX2_digest_6 : decode cX2_digest 6 = .ok (.iload_n 3, 1) := by decide +kernel
theorem dX2_digest_7 : decode cX2_digest 7 = .ok (.iconst 4, 1) := by decide +kernel
theorem dX2_digest_8 : decode cX2_digest 8 = .ok (.if_icmp .ge 21, 3) := by decide +kernel
theorem dX2_digest_11 : decode cX2_digest 11 = .ok (.lload_n 1, 1) := by decide +kernel
theorem dX2_digest_12 : decode cX2_digest 12 = .ok (.aload_n 0, 1) := by decide +kernel
theorem dX2_digest_13 : decode cX2_digest 13 = .ok (.getfield 27, 3) := by decide +kernel
theorem dX2_digest_16 : decode cX2_digest 16 = .ok (.iload_n 3, 1) := by decide +kernel
theorem dX2_digest_17 : decode cX2_digest 17 = .ok (.iaload, 1) := by decide +kernel
theorem dX2_digest_18 : decode cX2_digest 18 = .ok (.i2l, 1) := by decide +kernel
theorem dX2_digest_19 : decode cX2_digest 19 = .ok (.invokestatic 160, 3) := by decide +kernel
theorem dX2_digest_22 : decode cX2_digest 22 = .ok (.lstore_n 1, 1) := by decide +kernel
theorem dX2_digest_23 : decode cX2_digest 23 = .ok (.iinc 3 1, 3) := by decide +kernel
theorem dX2_digest_26 : decode cX2_digest 26 = .ok (.goto (-20), 3) := by decide +kernel
theorem dX2_digest_29 : decode cX2_digest 29 = .ok (.aload_n 0, 1) := by decide +kernel
theorem dX2_digest_30 : decode cX2_digest 30 = .ok (.getfield 10, 3) := by decide +kernel
theorem dX2_digest_33 : decode cX2_digest 33 = .ok (.lload_n 1, 1) := by decide +kernel
theorem dX2_digest_34 : decode cX2_digest 34 = .ok (.invokevirtual 164, 3) := by decide +kernel
theorem dX2_digest_37 : decode cX2_digest 37 = .ok (.lstore_n 1, 1) := by decide +kernel
theorem dX2_digest_38 : decode cX2_digest 38 = .ok (.aload_n 0, 1) := by decide +kernel
theorem dX2_digest_39 : decode cX2_digest 39 = .ok (.getfield 10, 3) := by decide +kernel
theorem dX2_digest_42 : decode cX2_digest 42 = .ok (.getfield 168, 3) := by decide +kernel
theorem dX2_digest_45 : decode cX2_digest 45 = .ok (.lload_n 1, 1) := by decide +kernel
theorem dX2_digest_46 : decode cX2_digest 46 = .ok (.invokevirtual 172, 3) := by decide +kernel
theorem dX2_digest_49 : decode cX2_digest 49 = .ok (.lstore_n 1, 1) := by decide +kernel
theorem dX2_digest_50 : decode cX2_digest 50 = .ok (.aload_n 0, 1) := by decide +kernel
theorem dX2_digest_51 : decode cX2_digest 51 = .ok (.getfield 10, 3) := by decide +kernel
theorem dX2_digest_54 : decode cX2_digest 54 = .ok (.getfield 175, 3) := by decide +kernel
theorem dX2_digest_57 : decode cX2_digest 57 = .ok (.lload_n 1, 1) := by decide +kernel
theorem dX2_digest_58 : decode cX2_digest 58 = .ok (.invokevirtual 172, 3) := by decide +kernel
theorem dX2_digest_61 : decode cX2_digest 61 = .ok (.lstore_n 1, 1) := by decide +kernel
theorem dX2_digest_62 : decode cX2_digest 62 = .ok (.aload_n 0, 1) := by decide +kernel
theorem dX2_digest_63 : decode cX2_digest 63 = .ok (.getfield 10, 3) := by decide +kernel
theorem dX2_digest_66 : decode cX2_digest 66 = .ok (.lload_n 1, 1) := by decide +kernel
theorem dX2_digest_67 : decode cX2_digest 67 = .ok (.invokevirtual 178, 3) := by decide +kernel
theorem dX2_digest_70 : decode cX2_digest 70 = .ok (.lstore_n 1, 1) := by decide +kernel
theorem dX2_digest_71 : decode cX2_digest 71 = .ok (.lload_n 1, 1) := by decide +kernel
theorem dX2_digest_72 : decode cX2_digest 72 = .ok (.aload_n 0, 1) := by decide +kernel
theorem dX2_digest_73 : decode cX2_digest 73 = .ok (.getfield 23, 3) := by decide +kernel
theorem dX2_digest_76 : decode cX2_digest 76 = .ok (.i2l, 1) := by decide +kernel
theorem dX2_digest_77 : decode cX2_digest 77 = .ok (.invokestatic 160, 3) := by decide +kernel
theorem dX2_digest_80 : decode cX2_digest 80 = .ok (.lreturn, 1) := by decide +kernel
theorem dX2_within_0 : decode cX2_within 0 = .ok (.iload_n 0, 1) := by decide +kernel
theorem dX2_within_1 : decode cX2_within 1 = .ok (.iload_n 1, 1) := by decide +kernel
theorem dX2_within_2 : decode cX2_within 2 = .ok (.if_icmp .lt 12, 3) := by decide +kernel
theorem dX2_within_5 : decode cX2_within 5 = .ok (.iload_n 0, 1) := by decide +kernel
theorem dX2_within_6 : decode cX2_within 6 = .ok (.iload_n 2, 1) := by decide +kernel
theorem dX2_within_7 : decode cX2_within 7 = .ok (.if_icmp .gt 7, 3) := by decide +kernel
theorem dX2_within_10 : decode cX2_within 10 = .ok (.iconst 1, 1) := by decide +kernel
theorem dX2_within_11 : decode cX2_within 11 = .ok (.goto 4, 3) := by decide +kernel
theorem dX2_within_14 : decode cX2_within 14 = .ok (.iconst 0, 1) := by decide +kernel
theorem dX2_within_15 : decode cX2_within 15 = .ok (.ireturn, 1) := by decide +kernel
theorem dX2_mixed_0 : decode cX2_mixed 0 = .ok (.ldc2_w 181, 3) := by decide +kernel
theorem dX2_mixed_3 : decode cX2_mixed 3 = .ok (.lload_n 0, 1) := by decide +kernel
theorem dX2_mixed_4 : decode cX2_mixed 4 = .ok (.lmul, 1) := by decide +kernel
theorem dX2_mixed_5 : decode cX2_mixed 5 = .ok (.lload_n 2, 1) := by decide +kernel
theorem dX2_mixed_6 : decode cX2_mixed 6 = .ok (.ladd, 1) := by decide +kernel
theorem dX2_mixed_7 : decode cX2_mixed 7 = .ok (.lreturn, 1) := by decide +kernel
theorem dX2_portionsFor_0 : decode cX2_portionsFor 0 = .ok (.iconst 1, 1) := by decide +kernel
theorem dX2_portionsFor_1 : decode cX2_portionsFor 1 = .ok (.iload_n 1, 1) := by decide +kernel
theorem dX2_portionsFor_2 : decode cX2_portionsFor 2 = .ok (.invokestatic 124, 3) := by decide +kernel
theorem dX2_portionsFor_5 : decode cX2_portionsFor 5 = .ok (.istore_n 2, 1) := by decide +kernel
theorem dX2_portionsFor_6 : decode cX2_portionsFor 6 = .ok (.iload_n 0, 1) := by decide +kernel
theorem dX2_portionsFor_7 : decode cX2_portionsFor 7 = .ok (.iload_n 2, 1) := by decide +kernel
theorem dX2_portionsFor_8 : decode cX2_portionsFor 8 = .ok (.iadd, 1) := by decide +kernel
theorem dX2_portionsFor_9 : decode cX2_portionsFor 9 = .ok (.iconst 1, 1) := by decide +kernel
theorem dX2_portionsFor_10 : decode cX2_portionsFor 10 = .ok (.isub, 1) := by decide +kernel
theorem dX2_portionsFor_11 : decode cX2_portionsFor 11 = .ok (.iload_n 2, 1) := by decide +kernel
theorem dX2_portionsFor_12 : decode cX2_portionsFor 12 = .ok (.idiv, 1) := by decide +kernel
theorem dX2_portionsFor_13 : decode cX2_portionsFor 13 = .ok (.ireturn, 1) := by decide +kernel
theorem dX2_layerError_0 : decode cX2_layerError 0 = .ok (.iload_n 1, 1) := by decide +kernel
theorem dX2_layerError_1 : decode cX2_layerError 1 = .ok (.iconst 0, 1) := by decide +kernel
theorem dX2_layerError_2 : decode cX2_layerError 2 = .ok (.iconst 1, 1) := by decide +kernel
theorem dX2_layerError_3 : decode cX2_layerError 3 = .ok (.invokestatic 31, 3) := by decide +kernel
theorem dX2_layerError_6 : decode cX2_layerError 6 = .ok (.ifCond .eq 7, 3) := by decide +kernel
theorem dX2_layerError_9 : decode cX2_layerError 9 = .ok (.iload_n 2, 1) := by decide +kernel
theorem dX2_layerError_10 : decode cX2_layerError 10 = .ok (.ifCond .ge 6, 3) := by decide +kernel
theorem dX2_layerError_13 : decode cX2_layerError 13 = .ok (.bipush (-2), 2) := by decide +kernel
theorem dX2_layerError_15 : decode cX2_layerError 15 = .ok (.ireturn, 1) := by decide +kernel
theorem dX2_layerError_16 : decode cX2_layerError 16 = .ok (.iload_n 2, 1) := by decide +kernel
theorem dX2_layerError_17 : decode cX2_layerError 17 = .ok (.aload_n 0, 1) := by decide +kernel
theorem dX2_layerError_18 : decode cX2_layerError 18 = .ok (.getfield 10, 3) := by decide +kernel
theorem dX2_layerError_21 : decode cX2_layerError 21 = .ok (.iload_n 1, 1) := by decide +kernel
theorem dX2_layerError_22 : decode cX2_layerError 22 = .ok (.invokevirtual 134, 3) := by decide +kernel
theorem dX2_layerError_25 : decode cX2_layerError 25 = .ok (.getfield 138, 3) := by decide +kernel
theorem dX2_layerError_28 : decode cX2_layerError 28 = .ok (.if_icmp .ge 7, 3) := by decide +kernel
theorem dX2_layerError_31 : decode cX2_layerError 31 = .ok (.iconst 0, 1) := by decide +kernel
theorem dX2_layerError_32 : decode cX2_layerError 32 = .ok (.goto 5, 3) := by decide +kernel
theorem dX2_layerError_35 : decode cX2_layerError 35 = .ok (.bipush (-4), 2) := by decide +kernel
theorem dX2_layerError_37 : decode cX2_layerError 37 = .ok (.ireturn, 1) := by decide +kernel
theorem dX2_refuse_0 : decode cX2_refuse 0 = .ok (.iload_n 1, 1) := by decide +kernel
theorem dX2_refuse_1 : decode cX2_refuse 1 = .ok (.bipush (-5), 2) := by decide +kernel
theorem dX2_refuse_3 : decode cX2_refuse 3 = .ok (.bipush (-2), 2) := by decide +kernel
theorem dX2_refuse_5 : decode cX2_refuse 5 = .ok (.invokestatic 31, 3) := by decide +kernel
theorem dX2_refuse_8 : decode cX2_refuse 8 = .ok (.ifCond .eq 16, 3) := by decide +kernel
theorem dX2_refuse_11 : decode cX2_refuse 11 = .ok (.aload_n 0, 1) := by decide +kernel
theorem dX2_refuse_12 : decode cX2_refuse 12 = .ok (.getfield 27, 3) := by decide +kernel
theorem dX2_refuse_15 : decode cX2_refuse 15 = .ok (.bipush (-2), 2) := by decide +kernel
theorem dX2_refuse_17 : decode cX2_refuse 17 = .ok (.iload_n 1, 1) := by decide +kernel
theorem dX2_refuse_18 : decode cX2_refuse 18 = .ok (.isub, 1) := by decide +kernel
theorem dX2_refuse_19 : decode cX2_refuse 19 = .ok (.dup2, 1) := by decide +kernel
theorem dX2_refuse_20 : decode cX2_refuse 20 = .ok (.iaload, 1) := by decide +kernel
theorem dX2_refuse_21 : decode cX2_refuse 21 = .ok (.iconst 1, 1) := by decide +kernel
theorem dX2_refuse_22 : decode cX2_refuse 22 = .ok (.iadd, 1) := by decide +kernel
theorem dX2_refuse_23 : decode cX2_refuse 23 = .ok (.iastore, 1) := by decide +kernel
theorem dX2_refuse_24 : decode cX2_refuse 24 = .ok (.iload_n 1, 1) := by decide +kernel
theorem dX2_refuse_25 : decode cX2_refuse 25 = .ok (.ireturn, 1) := by decide +kernel
theorem dX2_save_0 : decode cX2_save 0 = .ok (.aload_n 0, 1) := by decide +kernel
theorem dX2_save_1 : decode cX2_save 1 = .ok (.getfield 23, 3) := by decide +kernel
theorem dX2_save_4 : decode cX2_save 4 = .ok (.iconst 4, 1) := by decide +kernel
theorem dX2_save_5 : decode cX2_save 5 = .ok (.if_icmp .lt 7, 3) := by decide +kernel
theorem dX2_save_8 : decode cX2_save 8 = .ok (.aload_n 0, 1) := by decide +kernel
theorem dX2_save_9 : decode cX2_save 9 = .ok (.invokevirtual 183, 3) := by decide +kernel
theorem dX2_save_12 : decode cX2_save 12 = .ok (.aload_n 0, 1) := by decide +kernel
theorem dX2_save_13 : decode cX2_save 13 = .ok (.getfield 19, 3) := by decide +kernel
theorem dX2_save_16 : decode cX2_save 16 = .ok (.aload_n 0, 1) := by decide +kernel
theorem dX2_save_17 : decode cX2_save 17 = .ok (.getfield 23, 3) := by decide +kernel
theorem dX2_save_20 : decode cX2_save 20 = .ok (.aaload, 1) := by decide +kernel
theorem dX2_save_21 : decode cX2_save 21 = .ok (.aload_n 0, 1) := by decide +kernel
theorem dX2_save_22 : decode cX2_save 22 = .ok (.getfield 10, 3) := by decide +kernel
theorem dX2_save_25 : decode cX2_save 25 = .ok (.invokevirtual 113, 3) := by decide +kernel
theorem dX2_save_28 : decode cX2_save 28 = .ok (.aload_n 0, 1) := by decide +kernel
theorem dX2_save_29 : decode cX2_save 29 = .ok (.dup, 1) := by decide +kernel
theorem dX2_save_30 : decode cX2_save 30 = .ok (.getfield 23, 3) := by decide +kernel
theorem dX2_save_33 : decode cX2_save 33 = .ok (.iconst 1, 1) := by decide +kernel
theorem dX2_save_34 : decode cX2_save 34 = .ok (.iadd, 1) := by decide +kernel
theorem dX2_save_35 : decode cX2_save 35 = .ok (.putfield 23, 3) := by decide +kernel
theorem dX2_save_38 : decode cX2_save 38 = .ok (.return_, 1) := by decide +kernel
theorem dX2_dropOldestSaved_0 : decode cX2_dropOldestSaved 0 = .ok (.aload_n 0, 1) := by decide +kernel
theorem dX2_dropOldestSaved_1 : decode cX2_dropOldestSaved 1 = .ok (.getfield 19, 3) := by decide +kernel
theorem dX2_dropOldestSaved_4 : decode cX2_dropOldestSaved 4 = .ok (.iconst 0, 1) := by decide +kernel
theorem dX2_dropOldestSaved_5 : decode cX2_dropOldestSaved 5 = .ok (.aaload, 1) := by decide +kernel
theorem dX2_dropOldestSaved_6 : decode cX2_dropOldestSaved 6 = .ok (.astore_n 1, 1) := by decide +kernel
theorem dX2_dropOldestSaved_7 : decode cX2_dropOldestSaved 7 = .ok (.iconst 1, 1) := by decide +kernel
theorem dX2_dropOldestSaved_8 : decode cX2_dropOldestSaved 8 = .ok (.istore_n 2, 1) := by decide +kernel
theorem dX2_dropOldestSaved_9 : decode cX2_dropOldestSaved 9 = .ok (.iload_n 2, 1) := by decide +kernel
theorem dX2_dropOldestSaved_10 : decode cX2_dropOldestSaved 10 = .ok (.iconst 4, 1) := by decide +kernel
theorem dX2_dropOldestSaved_11 : decode cX2_dropOldestSaved 11 = .ok (.if_icmp .ge 23, 3) := by decide +kernel
theorem dX2_dropOldestSaved_14 : decode cX2_dropOldestSaved 14 = .ok (.aload_n 0, 1) := by decide +kernel
theorem dX2_dropOldestSaved_15 : decode cX2_dropOldestSaved 15 = .ok (.getfield 19, 3) := by decide +kernel
theorem dX2_dropOldestSaved_18 : decode cX2_dropOldestSaved 18 = .ok (.iload_n 2, 1) := by decide +kernel
theorem dX2_dropOldestSaved_19 : decode cX2_dropOldestSaved 19 = .ok (.iconst 1, 1) := by decide +kernel
theorem dX2_dropOldestSaved_20 : decode cX2_dropOldestSaved 20 = .ok (.isub, 1) := by decide +kernel
theorem dX2_dropOldestSaved_21 : decode cX2_dropOldestSaved 21 = .ok (.aload_n 0, 1) := by decide +kernel
theorem dX2_dropOldestSaved_22 : decode cX2_dropOldestSaved 22 = .ok (.getfield 19, 3) := by decide +kernel
theorem dX2_dropOldestSaved_25 : decode cX2_dropOldestSaved 25 = .ok (.iload_n 2, 1) := by decide +kernel
theorem dX2_dropOldestSaved_26 : decode cX2_dropOldestSaved 26 = .ok (.aaload, 1) := by decide +kernel
theorem dX2_dropOldestSaved_27 : decode cX2_dropOldestSaved 27 = .ok (.aastore, 1) := by decide +kernel
theorem dX2_dropOldestSaved_28 : decode cX2_dropOldestSaved 28 = .ok (.iinc 2 1, 3) := by decide +kernel
theorem dX2_dropOldestSaved_31 : decode cX2_dropOldestSaved 31 = .ok (.goto (-22), 3) := by decide +kernel
theorem dX2_dropOldestSaved_34 : decode cX2_dropOldestSaved 34 = .ok (.aload_n 0, 1) := by decide +kernel
theorem dX2_dropOldestSaved_35 : decode cX2_dropOldestSaved 35 = .ok (.getfield 19, 3) := by decide +kernel
theorem dX2_dropOldestSaved_38 : decode cX2_dropOldestSaved 38 = .ok (.iconst 3, 1) := by decide +kernel
theorem dX2_dropOldestSaved_39 : decode cX2_dropOldestSaved 39 = .ok (.aload_n 1, 1) := by decide +kernel
theorem dX2_dropOldestSaved_40 : decode cX2_dropOldestSaved 40 = .ok (.aastore, 1) := by decide +kernel
theorem dX2_dropOldestSaved_41 : decode cX2_dropOldestSaved 41 = .ok (.aload_n 0, 1) := by decide +kernel
theorem dX2_dropOldestSaved_42 : decode cX2_dropOldestSaved 42 = .ok (.iconst 3, 1) := by decide +kernel
theorem dX2_dropOldestSaved_43 : decode cX2_dropOldestSaved 43 = .ok (.putfield 23, 3) := by decide +kernel
theorem dX2_dropOldestSaved_46 : decode cX2_dropOldestSaved 46 = .ok (.return_, 1) := by decide +kernel
end
section
theorem dX3_init_0 : decode cX3_init 0 = .ok (.aload_n 0, 1) := by decide +kernel
theorem dX3_init_1 : decode cX3_init 1 = .ok (.invokespecial 1, 3) := by decide +kernel
theorem dX3_init_4 : decode cX3_init 4 = .ok (.aload_n 0, 1) := by decide +kernel
theorem dX3_init_5 : decode cX3_init 5 = .ok (.sipush 4416, 3) := by decide +kernel
theorem dX3_init_8 : decode cX3_init 8 = .ok (.newarray .int, 2) := by decide +kernel
theorem dX3_init_10 : decode cX3_init 10 = .ok (.putfield 7, 3) := by decide +kernel
theorem dX3_init_13 : decode cX3_init 13 = .ok (.aload_n 0, 1) := by decide +kernel
theorem dX3_init_14 : decode cX3_init 14 = .ok (.sipush 4416, 3) := by decide +kernel
theorem dX3_init_17 : decode cX3_init 17 = .ok (.newarray .int, 2) := by decide +kernel
theorem dX3_init_19 : decode cX3_init 19 = .ok (.putfield 13, 3) := by decide +kernel
theorem dX3_init_22 : decode cX3_init 22 = .ok (.aload_n 0, 1) := by decide +kernel
theorem dX3_init_23 : decode cX3_init 23 = .ok (.sipush 17664, 3) := by decide +kernel
theorem dX3_init_26 : decode cX3_init 26 = .ok (.newarray .int, 2) := by decide +kernel
theorem dX3_init_28 : decode cX3_init 28 = .ok (.putfield 16, 3) := by decide +kernel
theorem dX3_init_31 : decode cX3_init 31 = .ok (.aload_n 0, 1) := by decide +kernel
theorem dX3_init_32 : decode cX3_init 32 = .ok (.iconst 4, 1) := by decide +kernel
theorem dX3_init_33 : decode cX3_init 33 = .ok (.newarray .int, 2) := by decide +kernel
theorem dX3_init_35 : decode cX3_init 35 = .ok (.putfield 19, 3) := by decide +kernel
theorem dX3_init_38 : decode cX3_init 38 = .ok (.aload_n 0, 1) := by decide +kernel
theorem dX3_init_39 : decode cX3_init 39 = .ok (.getfield 7, 3) := by decide +kernel
theorem dX3_init_42 : decode cX3_init 42 = .ok (.iconst 0, 1) := by decide +kernel
theorem dX3_init_43 : decode cX3_init 43 = .ok (.sipush 1000, 3) := by decide +kernel
theorem dX3_init_46 : decode cX3_init 46 = .ok (.iastore, 1) := by decide +kernel
theorem dX3_init_47 : decode cX3_init 47 = .ok (.aload_n 0, 1) := by decide +kernel
theorem dX3_init_48 : decode cX3_init 48 = .ok (.getfield 7, 3) := by decide +kernel
theorem dX3_init_51 : decode cX3_init 51 = .ok (.iconst 1, 1) := by decide +kernel
theorem dX3_init_52 : decode cX3_init 52 = .ok (.bipush 9, 2) := by decide +kernel
theorem dX3_init_54 : decode cX3_init 54 = .ok (.iastore, 1) := by decide +kernel
theorem dX3_init_55 : decode cX3_init 55 = .ok (.aload_n 0, 1) := by decide +kernel
theorem dX3_init_56 : decode cX3_init 56 = .ok (.getfield 7, 3) := by decide +kernel
theorem dX3_init_59 : decode cX3_init 59 = .ok (.iconst 2, 1) := by decide +kernel
theorem dX3_init_60 : decode cX3_init 60 = .ok (.bipush 25, 2) := by decide +kernel
theorem dX3_init_62 : decode cX3_init 62 = .ok (.iastore, 1) := by decide +kernel
theorem dX3_init_63 : decode cX3_init 63 = .ok (.aload_n 0, 1) := by decide +kernel
theorem dX3_init_64 : decode cX3_init 64 = .ok (.getfield 7, 3) := by decide +kernel
theorem dX3_init_67 : decode cX3_init 67 = .ok (.iconst 3, 1) := by decide +kernel
theorem dX3_init_68 : decode cX3_init 68 = .ok (.sipush 400, 3) := by decide +kernel
theorem dX3_init_71 : decode cX3_init 71 = .ok (.iastore, 1) := by decide +kernel
theorem dX3_init_72 : decode cX3_init 72 = .ok (.aload_n 0, 1) := by decide +kernel
theorem dX3_init_73 : decode cX3_init 73 = .ok (.getfield 7, 3) := by decide +kernel
theorem dX3_init_76 : decode cX3_init 76 = .ok (.iconst 4, 1) := by decide +kernel
theorem dX3_init_77 : decode cX3_init 77 = .ok (.sipush 1200, 3) := by decide +kernel
theorem dX3_init_80 : decode cX3_init 80 = .ok (.iastore, 1) := by decide +kernel
theorem dX3_init_81 : decode cX3_init 81 = .ok (.aload_n 0, 1) := by decide +kernel
theorem dX3_init_82 : decode cX3_init 82 = .ok (.getfield 7, 3) := by decide +kernel
theorem dX3_init_85 : decode cX3_init 85 = .ok (.bipush 6, 2) := by decide +kernel
theorem dX3_init_87 : decode cX3_init 87 = .ok (.sipush 2000, 3) := by decide +kernel
theorem dX3_init_90 : decode cX3_init 90 = .ok (.iastore, 1) := by decide +kernel
theorem dX3_init_91 : decode cX3_init 91 = .ok (.aload_n 0, 1) := by decide +kernel
theorem dX3_init_92 : decode cX3_init 92 = .ok (.getfield 7, 3) := by decide +kernel
theorem dX3_init_95 : decode cX3_init 95 = .ok (.bipush 7, 2) := by decide +kernel
theorem dX3_init_97 : decode cX3_init 97 = .ok (.sipush 8000, 3) := by decide +kernel
theorem dX3_init_100 : decode cX3_init 100 = .ok (.iastore, 1) := by decide +kernel
theorem dX3_init_101 : decode cX3_init 101 = .ok (.aload_n 0, 1) := by decide +kernel
theorem dX3_init_102 : decode cX3_init 102 = .ok (.invokevirtual 22, 3) := by decide +kernel
theorem dX3_init_105 : decode cX3_init 105 = .ok (.return_, 1) := by decide +kernel
theorem dX3_in_0 : decode cX3_in 0 = .ok (.iload_n 0, 1) := by decide +kernel
theorem dX3_in_1 : decode cX3_in 1 = .ok (.iload_n 1, 1) := by decide +kernel
theorem dX3_in_2 : decode cX3_in 2 = .ok (.if_icmp .lt 12, 3) := by decide +kernel
theorem dX3_in_5 : decode cX3_in 5 = .ok (.iload_n 0, 1) := by decide +kernel
theorem dX3_in_6 : decode cX3_in 6 = .ok (.iload_n 2, 1) := by decide +kernel
theorem dX3_in_7 : decode cX3_in 7 = .ok (.if_icmp .gt 7, 3) := by decide +kernel
theorem dX3_in_10 : decode cX3_in 10 = .ok (.iconst 1, 1) := by decide +kernel
theorem dX3_in_11 : decode cX3_in 11 = .ok (.goto 4, 3) := by decide +kernel
theorem dX3_in_14 : decode cX3_in 14 = .ok (.iconst 0, 1) := by decide +kernel
theorem dX3_in_15 : decode cX3_in 15 = .ok (.ireturn, 1) := by decide +kernel
theorem dX3_error_0 : decode cX3_error 0 = .ok (.aload_n 0, 1) := by decide +kernel
theorem dX3_error_1 : decode cX3_error 1 = .ok (.getfield 19, 3) := by decide +kernel
theorem dX3_error_4 : decode cX3_error 4 = .ok (.bipush (-2), 2) := by decide +kernel
theorem dX3_error_6 : decode cX3_error 6 = .ok (.iload_n 1, 1) := by decide +kernel
theorem dX3_error_7 : decode cX3_error 7 = .ok (.isub, 1) := by decide +kernel
theorem dX3_error_8 : decode cX3_error 8 = .ok (.dup2, 1) := by decide +kernel
theorem dX3_error_9 : decode cX3_error 9 = .ok (.iaload, 1) := by decide +kernel
theorem dX3_error_10 : decode cX3_error 10 = .ok (.iconst 1, 1) := by decide +kernel
theorem dX3_error_11 : decode cX3_error 11 = .ok (.iadd, 1) := by decide +kernel
theorem dX3_error_12 : decode cX3_error 12 = .ok (.iastore, 1) := by decide +kernel
theorem dX3_error_13 : decode cX3_error 13 = .ok (.iload_n 1, 1) := by decide +kernel
theorem dX3_error_14 : decode cX3_error 14 = .ok (.ireturn, 1) := by decide +kernel
theorem dX3_copy_0 : decode cX3_copy 0 = .ok (.iconst 0, 1) := by decide +kernel
theorem dX3_copy_1 : decode cX3_copy 1 = .ok (.istore 4, 2) := by decide +kernel
theorem dX3_copy_3 : decode cX3_copy 3 = .ok (.iload 4, 2) := by decide +kernel
theorem dX3_copy_5 : decode cX3_copy 5 = .ok (.bipush 16, 2) := by decide +kernel
theorem dX3_copy_7 : decode cX3_copy 7 = .ok (.if_icmp .ge 21, 3) := by decide +kernel
theorem dX3_copy_10 : decode cX3_copy 10 = .ok (.aload_n 2, 1) := by decide +kernel
theorem dX3_copy_11 : decode cX3_copy 11 = .ok (.iload_n 3, 1) := by decide +kernel
theorem dX3_copy_12 : decode cX3_copy 12 = .ok (.iload 4, 2) := by decide +kernel
theorem dX3_copy_14 : decode cX3_copy 14 = .ok (.iadd, 1) := by decide +kernel
theorem dX3_copy_15 : decode cX3_copy 15 = .ok (.aload_n 0, 1) := by decide +kernel
theorem dX3_copy_16 : decode cX3_copy 16 = .ok (.iload_n 1, 1) := by decide +kernel
theorem dX3_copy_17 : decode cX3_copy 17 = .ok (.iload 4, 2) := by decide +kernel
theorem dX3_copy_19 : decode cX3_copy 19 = .ok (.iadd, 1) := by decide +kernel
theorem dX3_copy_20 : decode cX3_copy 20 = .ok (.iaload, 1) := by decide +kernel
theorem dX3_copy_21 : decode cX3_copy 21 = .ok (.iastore, 1) := by decide +kernel
theorem dX3_copy_22 : decode cX3_copy 22 = .ok (.iinc 4 1, 3) := by decide +kernel
theorem dX3_copy_25 : decode cX3_copy 25 = .ok (.goto (-22), 3) := by decide +kernel
theorem dX3_copy_28 : decode cX3_copy 28 = .ok (.iconst 0, 1) := by decide +kernel
theorem dX3_copy_29 : decode cX3_copy 29 = .ok (.istore 4, 2) := by decide +kernel
theorem dX3_copy_31 : decode cX3_copy 31 = .ok (.iload 4, 2) := by decide +kernel
theorem dX3_copy_33 : decode cX3_copy 33 = .ok (.iconst 2, 1) := by decide +kernel
theorem dX3_copy_34 : decode cX3_copy 34 = .ok (.if_icmp .ge 87, 3) := by decide +kernel
theorem dX3_copy_37 : decode cX3_copy 37 = .ok (.bipush 16, 2) := by decide +kernel
theorem dX3_copy_39 : decode cX3_copy 39 = .ok (.sipush 2200, 3) := by decide +kernel
theorem dX3_copy_42 : decode cX3_copy 42 = .ok (.iload 4, 2) := by decide +kernel
theorem dX3_copy_44 : decode cX3_copy 44 = .ok (.imul, 1) := by decide +kernel
theorem dX3_copy_45 : decode cX3_copy 45 = .ok (.iadd, 1) := by decide +kernel
theorem dX3_copy_46 : decode cX3_copy 46 = .ok (.istore 5, 2) := by decide +kernel
theorem dX3_copy_48 : decode cX3_copy 48 = .ok (.iconst 0, 1) := by decide +kernel
theorem dX3_copy_49 : decode cX3_copy 49 = .ok (.istore 6, 2) := by decide +kernel
theorem dX3_copy_51 : decode cX3_copy 51 = .ok (.iload 6, 2) := by decide +kernel
theorem dX3_copy_53 : decode cX3_copy 53 = .ok (.aload_n 0, 1) := by decide +kernel
theorem dX3_copy_54 : decode cX3_copy 54 = .ok (.iload_n 1, 1) := by decide +kernel
theorem dX3_copy_55 : decode cX3_copy 55 = .ok (.bipush 11, 2) := by decide +kernel
theorem dX3_copy_57 : decode cX3_copy 57 = .ok (.iadd, 1) := by decide +kernel
theorem dX3_copy_58 : decode cX3_copy 58 = .ok (.iload 4, 2) := by decide +kernel
theorem dX3_copy_60 : decode cX3_copy 60 = .ok (.iadd, 1) := by decide +kernel
theorem dX3_copy_61 : decode cX3_copy 61 = .ok (.iaload, 1) := by decide +kernel
theorem dX3_copy_62 : decode cX3_copy 62 = .ok (.if_icmp .ge 53, 3) := by decide +kernel
theorem dX3_copy_65 : decode cX3_copy 65 = .ok (.aload_n 2, 1) := by decide +kernel
theorem dX3_copy_66 : decode cX3_copy 66 = .ok (.iload_n 3, 1) := by decide +kernel
theorem dX3_copy_67 : decode cX3_copy 67 = .ok (.iload 5, 2) := by decide +kernel
theorem dX3_copy_69 : decode cX3_copy 69 = .ok (.iadd, 1) := by decide +kernel
theorem dX3_copy_70 : decode cX3_copy 70 = .ok (.iload 6, 2) := by decide +kernel
theorem dX3_copy_72 : decode cX3_copy 72 = .ok (.iadd, 1) := by decide +kernel
theorem dX3_copy_73 : decode cX3_copy 73 = .ok (.aload_n 0, 1) := by decide +kernel
theorem dX3_copy_74 : decode cX3_copy 74 = .ok (.iload_n 1, 1) := by decide +kernel
theorem dX3_copy_75 : decode cX3_copy 75 = .ok (.iload 5, 2) := by decide +kernel
theorem dX3_copy_77 : decode cX3_copy 77 = .ok (.iadd, 1) := by decide +kernel
theorem dX3_copy_78 : decode cX3_copy 78 = .ok (.iload 6, 2) := by decide +kernel
theorem dX3_copy_80 : decode cX3_copy 80 = .ok (.iadd, 1) := by decide +kernel
theorem dX3_copy_81 : decode cX3_copy 81 = .ok (.iaload, 1) := by decide +kernel
theorem dX3_copy_82 : decode cX3_copy 82 = .ok (.iastore, 1) := by decide +kernel
theorem dX3_copy_83 : decode cX3_copy 83 = .ok (.aload_n 2, 1) := by decide +kernel
theorem dX3_copy_84 : decode cX3_copy 84 = .ok (.iload_n 3, 1) := by decide +kernel
theorem dX3_copy_85 : decode cX3_copy 85 = .ok (.iload 5, 2) := by decide +kernel
theorem dX3_copy_87 : decode cX3_copy 87 = .ok (.iadd, 1) := by decide +kernel
theorem dX3_copy_88 : decode cX3_copy 88 = .ok (.sipush 1100, 3) := by decide +kernel
theorem dX3_copy_91 : decode cX3_copy 91 = .ok (.iadd, 1) := by decide +kernel
theorem dX3_copy_92 : decode cX3_copy 92 = .ok (.iload 6, 2) := by decide +kernel
theorem dX3_copy_94 : decode cX3_copy 94 = .ok (.iadd, 1) := by decide +kernel
theorem dX3_copy_95 : decode cX3_copy 95 = .ok (.aload_n 0, 1) := by decide +kernel
theorem dX3_copy_96 : decode cX3_copy 96 = .ok (.iload_n 1, 1) := by decide +kernel
theorem dX3_copy_97 : decode cX3_copy 97 = .ok (.iload 5, 2) := by decide +kernel
theorem dX3_copy_99 : decode cX3_copy 99 = .ok (.iadd, 1) := by decide +kernel
theorem dX3_copy_100 : decode cX3_copy 100 = .ok (.sipush 1100, 3) := by decide +kernel
theorem dX3_copy_103 : decode cX3_copy 103 = .ok (.iadd, 1) := by decide +kernel
theorem dX3_copy_104 : decode cX3_copy 104 = .ok (.iload 6, 2) := by decide +kernel
theorem dX3_copy_106 : decode cX3_copy 106 = .ok (.iadd, 1) := by decide +kernel
theorem dX3_copy_107 : decode cX3_copy 107 = .ok (.iaload, 1) := by decide +kernel
theorem dX3_copy_108 : decode cX3_copy 108 = .ok (.iastore, 1) := by decide +kernel
theorem dX3_copy_109 : decode cX3_copy 109 = .ok (.iinc 6 1, 3) := by decide +kernel
theorem dX3_copy_112 : decode cX3_copy 112 = .ok (.goto (-61), 3) := by decide +kernel
theorem dX3_copy_115 : decode cX3_copy 115 = .ok (.iinc 4 1, 3) := by decide +kernel
theorem dX3_copy_118 : decode cX3_copy 118 = .ok (.goto (-87), 3) := by decide +kernel
theorem dX3_copy_121 : decode cX3_copy 121 = .ok (.return_, 1) := by decide +kernel
theorem dX3_save_0 : decode cX3_save 0 = .ok (.aload_n 0, 1) := by decide +kernel
theorem dX3_save_1 : decode cX3_save 1 = .ok (.getfield 25, 3) := by decide +kernel
theorem dX3_save_4 : decode cX3_save 4 = .ok (.iconst 4, 1) := by decide +kernel
theorem dX3_save_5 : decode cX3_save 5 = .ok (.if_icmp .ne 49, 3) := by decide +kernel
theorem dX3_save_8 : decode cX3_save 8 = .ok (.iconst 1, 1) := by decide +kernel
theorem dX3_save_9 : decode cX3_save 9 = .ok (.istore_n 1, 1) := by decide +kernel
theorem dX3_save_10 : decode cX3_save 10 = .ok (.iload_n 1, 1) := by decide +kernel
theorem dX3_save_11 : decode cX3_save 11 = .ok (.iconst 4, 1) := by decide +kernel
theorem dX3_save_12 : decode cX3_save 12 = .ok (.if_icmp .ge 32, 3) := by decide +kernel
theorem dX3_save_15 : decode cX3_save 15 = .ok (.aload_n 0, 1) := by decide +kernel
theorem dX3_save_16 : decode cX3_save 16 = .ok (.getfield 16, 3) := by decide +kernel
theorem dX3_save_19 : decode cX3_save 19 = .ok (.sipush 4416, 3) := by decide +kernel
theorem dX3_save_22 : decode cX3_save 22 = .ok (.iload_n 1, 1) := by decide +kernel
theorem dX3_save_23 : decode cX3_save 23 = .ok (.imul, 1) := by decide +kernel
theorem dX3_save_24 : decode cX3_save 24 = .ok (.aload_n 0, 1) := by decide +kernel
theorem dX3_save_25 : decode cX3_save 25 = .ok (.getfield 16, 3) := by decide +kernel
theorem dX3_save_28 : decode cX3_save 28 = .ok (.sipush 4416, 3) := by decide +kernel
theorem dX3_save_31 : decode cX3_save 31 = .ok (.iload_n 1, 1) := by decide +kernel
theorem dX3_save_32 : decode cX3_save 32 = .ok (.iconst 1, 1) := by decide +kernel
theorem dX3_save_33 : decode cX3_save 33 = .ok (.isub, 1) := by decide +kernel
theorem dX3_save_34 : decode cX3_save 34 = .ok (.imul, 1) := by decide +kernel
theorem dX3_save_35 : decode cX3_save 35 = .ok (.invokestatic 29, 3) := by decide +kernel
theorem dX3_save_38 : decode cX3_save 38 = .ok (.iinc 1 1, 3) := by decide +kernel
theorem dX3_save_41 : decode cX3_save 41 = .ok (.goto (-31), 3) := by decide +kernel
theorem dX3_save_44 : decode cX3_save 44 = .ok (.aload_n 0, 1) := by decide +kernel
theorem dX3_save_45 : decode cX3_save 45 = .ok (.dup, 1) := by decide +kernel
theorem dX3_save_46 : decode cX3_save 46 = .ok (.getfield 25, 3) := by decide +kernel
theorem dX3_save_49 : decode cX3_save 49 = .ok (.iconst 1, 1) := by decide +kernel
theorem dX3_save_50 : decode cX3_save 50 = .ok (.isub, 1) := by decide +kernel
theorem dX3_save_51 : decode cX3_save 51 = .ok (.putfield 25, 3) := by decide +kernel
theorem dX3_save_54 : decode cX3_save 54 = .ok (.aload_n 0, 1) := by decide +kernel
theorem dX3_save_55 : decode cX3_save 55 = .ok (.getfield 7, 3) := by decide +kernel
theorem dX3_save_58 : decode cX3_save 58 = .ok (.iconst 0, 1) := by decide +kernel
theorem dX3_save_59 : decode cX3_save 59 = .ok (.aload_n 0, 1) := by decide +kernel
theorem dX3_save_60 : decode cX3_save 60 = .ok (.getfield 16, 3) := by decide +kernel
theorem dX3_save_63 : decode cX3_save 63 = .ok (.sipush 4416, 3) := by decide +kernel
theorem dX3_save_66 : decode cX3_save 66 = .ok (.aload_n 0, 1) := by decide +kernel
theorem dX3_save_67 : decode cX3_save 67 = .ok (.getfield 25, 3) := by decide +kernel
theorem dX3_save_70 : decode cX3_save 70 = .ok (.imul, 1) := by decide +kernel
theorem dX3_save_71 : decode cX3_save 71 = .ok (.invokestatic 29, 3) := by decide +kernel
theorem dX3_save_74 : decode cX3_save 74 = .ok (.aload_n 0, 1) := by decide +kernel
theorem dX3_save_75 : decode cX3_save 75 = .ok (.dup, 1) := by decide +kernel
theorem dX3_save_76 : decode cX3_save 76 = .ok (.getfield 25, 3) := by decide +kernel
theorem dX3_save_79 : decode cX3_save 79 = .ok (.iconst 1, 1) := by decide +kernel
theorem dX3_save_80 : decode cX3_save 80 = .ok (.iadd, 1) := by decide +kernel
theorem dX3_save_81 : decode cX3_save 81 = .ok (.putfield 25, 3) := by decide +kernel
theorem dX3_save_84 : decode cX3_save 84 = .ok (.return_, 1) := by decide +kernel
theorem dX3_volumeAt_0 : decode cX3_volumeAt 0 = .ok (.bipush 16, 2) := by decide +kernel
theorem dX3_volumeAt_2 : decode cX3_volumeAt 2 = .ok (.sipush 2200, 3) := by decide +kernel
theorem dX3_volumeAt_5 : decode cX3_volumeAt 5 = .ok (.iload_n 0, 1) := by decide +kernel
theorem dX3_volumeAt_6 : decode cX3_volumeAt 6 = .ok (.imul, 1) := by decide +kernel
theorem dX3_volumeAt_7 : decode cX3_volumeAt 7 = .ok (.iadd, 1) := by decide +kernel
theorem dX3_volumeAt_8 : decode cX3_volumeAt 8 = .ok (.iload_n 1, 1) := by decide +kernel
theorem dX3_volumeAt_9 : decode cX3_volumeAt 9 = .ok (.iadd, 1) := by decide +kernel
theorem dX3_volumeAt_10 : decode cX3_volumeAt 10 = .ok (.ireturn, 1) := by decide +kernel
theorem dX3_densityAt_0 : decode cX3_densityAt 0 = .ok (.iload_n 0, 1) := by decide +kernel
theorem dX3_densityAt_1 : decode cX3_densityAt 1 = .ok (.iload_n 1, 1) := by decide +kernel
theorem dX3_densityAt_2 : decode cX3_densityAt 2 = .ok (.invokestatic 33, 3) := by decide +kernel
theorem dX3_densityAt_5 : decode cX3_densityAt 5 = .ok (.sipush 1100, 3) := by decide +kernel
theorem dX3_densityAt_8 : decode cX3_densityAt 8 = .ok (.iadd, 1) := by decide +kernel
theorem dX3_densityAt_9 : decode cX3_densityAt 9 = .ok (.ireturn, 1) := by decide +kernel
theorem dX3_volumeOf_0 : decode cX3_volumeOf 0 = .ok (.aload_n 0, 1) := by decide +kernel
theorem dX3_volumeOf_1 : decode cX3_volumeOf 1 = .ok (.getfield 7, 3) := by decide +kernel
theorem dX3_volumeOf_4 : decode cX3_volumeOf 4 = .ok (.iconst 0, 1) := by decide +kernel
theorem dX3_volumeOf_5 : decode cX3_volumeOf 5 = .ok (.iaload, 1) := by decide +kernel
theorem dX3_volumeOf_6 : decode cX3_volumeOf 6 = .ok (.aload_n 0, 1) := by decide +kernel
theorem dX3_volumeOf_7 : decode cX3_volumeOf 7 = .ok (.getfield 7, 3) := by decide +kernel
theorem dX3_volumeOf_10 : decode cX3_volumeOf 10 = .ok (.iconst 1, 1) := by decide +kernel
theorem dX3_volumeOf_11 : decode cX3_volumeOf 11 = .ok (.iload_n 1, 1) := by decide +kernel
theorem dX3_volumeOf_12 : decode cX3_volumeOf 12 = .ok (.iadd, 1) := by decide +kernel
theorem dX3_volumeOf_13 : decode cX3_volumeOf 13 = .ok (.iaload, 1) := by decide +kernel
theorem dX3_volumeOf_14 : decode cX3_volumeOf 14 = .ok (.imul, 1) := by decide +kernel
theorem dX3_volumeOf_15 : decode cX3_volumeOf 15 = .ok (.ireturn, 1) := by decide +kernel
theorem dX3_fill_0 : decode cX3_fill 0 = .ok (.iconst 0, 1) := by decide +kernel
theorem dX3_fill_1 : decode cX3_fill 1 = .ok (.istore_n 1, 1) := by decide +kernel
theorem dX3_fill_2 : decode cX3_fill 2 = .ok (.iload_n 1, 1) := by decide +kernel
theorem dX3_fill_3 : decode cX3_fill 3 = .ok (.iconst 2, 1) := by decide +kernel
theorem dX3_fill_4 : decode cX3_fill 4 = .ok (.if_icmp .ge 50, 3) := by decide +kernel
theorem dX3_fill_7 : decode cX3_fill 7 = .ok (.aload_n 0, 1) := by decide +kernel
theorem dX3_fill_8 : decode cX3_fill 8 = .ok (.getfield 7, 3) := by decide +kernel
theorem dX3_fill_11 : decode cX3_fill 11 = .ok (.bipush 11, 2) := by decide +kernel
theorem dX3_fill_13 : decode cX3_fill 13 = .ok (.iload_n 1, 1) := by decide +kernel
theorem dX3_fill_14 : decode cX3_fill 14 = .ok (.iadd, 1) := by decide +kernel
theorem dX3_fill_15 : decode cX3_fill 15 = .ok (.iconst 1, 1) := by decide +kernel
theorem dX3_fill_16 : decode cX3_fill 16 = .ok (.iastore, 1) := by decide +kernel
theorem dX3_fill_17 : decode cX3_fill 17 = .ok (.aload_n 0, 1) := by decide +kernel
theorem dX3_fill_18 : decode cX3_fill 18 = .ok (.getfield 7, 3) := by decide +kernel
theorem dX3_fill_21 : decode cX3_fill 21 = .ok (.iload_n 1, 1) := by decide +kernel
theorem dX3_fill_22 : decode cX3_fill 22 = .ok (.iconst 0, 1) := by decide +kernel
theorem dX3_fill_23 : decode cX3_fill 23 = .ok (.invokestatic 33, 3) := by decide +kernel
theorem dX3_fill_26 : decode cX3_fill 26 = .ok (.aload_n 0, 1) := by decide +kernel
theorem dX3_fill_27 : decode cX3_fill 27 = .ok (.iload_n 1, 1) := by decide +kernel
theorem dX3_fill_28 : decode cX3_fill 28 = .ok (.invokevirtual 37, 3) := by decide +kernel
theorem dX3_fill_31 : decode cX3_fill 31 = .ok (.iastore, 1) := by decide +kernel
theorem dX3_fill_32 : decode cX3_fill 32 = .ok (.aload_n 0, 1) := by decide +kernel
theorem dX3_fill_33 : decode cX3_fill 33 = .ok (.getfield 7, 3) := by decide +kernel
theorem dX3_fill_36 : decode cX3_fill 36 = .ok (.iload_n 1, 1) := by decide +kernel
theorem dX3_fill_37 : decode cX3_fill 37 = .ok (.iconst 0, 1) := by decide +kernel
theorem dX3_fill_38 : decode cX3_fill 38 = .ok (.invokestatic 41, 3) := by decide +kernel
theorem dX3_fill_41 : decode cX3_fill 41 = .ok (.aload_n 0, 1) := by decide +kernel
theorem dX3_fill_42 : decode cX3_fill 42 = .ok (.getfield 7, 3) := by decide +kernel
theorem dX3_fill_45 : decode cX3_fill 45 = .ok (.iconst 4, 1) := by decide +kernel
theorem dX3_fill_46 : decode cX3_fill 46 = .ok (.iaload, 1) := by decide +kernel
theorem dX3_fill_47 : decode cX3_fill 47 = .ok (.iastore, 1) := by decide +kernel
theorem dX3_fill_48 : decode cX3_fill 48 = .ok (.iinc 1 1, 3) := by decide +kernel
theorem dX3_fill_51 : decode cX3_fill 51 = .ok (.goto (-49), 3) := by decide +kernel
theorem dX3_fill_54 : decode cX3_fill 54 = .ok (.aload_n 0, 1) := by decide +kernel
theorem dX3_fill_55 : decode cX3_fill 55 = .ok (.getfield 7, 3) := by decide +kernel
theorem dX3_fill_58 : decode cX3_fill 58 = .ok (.bipush 8, 2) := by decide +kernel
theorem dX3_fill_60 : decode cX3_fill 60 = .ok (.iconst 0, 1) := by decide +kernel
theorem dX3_fill_61 : decode cX3_fill 61 = .ok (.iastore, 1) := by decide +kernel
theorem dX3_fill_62 : decode cX3_fill 62 = .ok (.aload_n 0, 1) := by decide +kernel
theorem dX3_fill_63 : decode cX3_fill 63 = .ok (.getfield 7, 3) := by decide +kernel
theorem dX3_fill_66 : decode cX3_fill 66 = .ok (.bipush 9, 2) := by decide +kernel
theorem dX3_fill_68 : decode cX3_fill 68 = .ok (.iconst 0, 1) := by decide +kernel
theorem dX3_fill_69 : decode cX3_fill 69 = .ok (.iastore, 1) := by decide +kernel
theorem dX3_fill_70 : decode cX3_fill 70 = .ok (.aload_n 0, 1) := by decide +kernel
theorem dX3_fill_71 : decode cX3_fill 71 = .ok (.getfield 7, 3) := by decide +kernel
theorem dX3_fill_74 : decode cX3_fill 74 = .ok (.bipush 10, 2) := by decide +kernel
theorem dX3_fill_76 : decode cX3_fill 76 = .ok (.iconst 0, 1) := by decide +kernel
theorem dX3_fill_77 : decode cX3_fill 77 = .ok (.iastore, 1) := by decide +kernel
theorem dX3_fill_78 : decode cX3_fill 78 = .ok (.return_, 1) := by decide +kernel
theorem dX3_putOnTop_0 : decode cX3_putOnTop 0 = .ok (.aload_n 0, 1) := by decide +kernel
theorem dX3_putOnTop_1 : decode cX3_putOnTop 1 = .ok (.getfield 7, 3) := by decide +kernel
theorem dX3_putOnTop_4 : decode cX3_putOnTop 4 = .ok (.iconst 0, 1) := by decide +kernel
theorem dX3_putOnTop_5 : decode cX3_putOnTop 5 = .ok (.iconst 0, 1) := by decide +kernel
theorem dX3_putOnTop_6 : decode cX3_putOnTop 6 = .ok (.invokestatic 41, 3) := by decide +kernel
theorem dX3_putOnTop_9 : decode cX3_putOnTop 9 = .ok (.iaload, 1) := by decide +kernel
theorem dX3_putOnTop_10 : decode cX3_putOnTop 10 = .ok (.iload_n 2, 1) := by decide +kernel
theorem dX3_putOnTop_11 : decode cX3_putOnTop 11 = .ok (.if_icmp .ne 18, 3) := by decide +kernel
theorem dX3_putOnTop_14 : decode cX3_putOnTop 14 = .ok (.aload_n 0, 1) := by decide +kernel
theorem dX3_putOnTop_15 : decode cX3_putOnTop 15 = .ok (.getfield 7, 3) := by decide +kernel
theorem dX3_putOnTop_18 : decode cX3_putOnTop 18 = .ok (.iconst 0, 1) := by decide +kernel
theorem dX3_putOnTop_19 : decode cX3_putOnTop 19 = .ok (.iconst 0, 1) := by decide +kernel
theorem dX3_putOnTop_20 : decode cX3_putOnTop 20 = .ok (.invokestatic 33, 3) := by decide +kernel
theorem dX3_putOnTop_23 : decode cX3_putOnTop 23 = .ok (.dup2, 1) := by decide +kernel
theorem dX3_putOnTop_24 : decode cX3_putOnTop 24 = .ok (.iaload, 1) := by decide +kernel
theorem dX3_putOnTop_25 : decode cX3_putOnTop 25 = .ok (.iload_n 1, 1) := by decide +kernel
theorem dX3_putOnTop_26 : decode cX3_putOnTop 26 = .ok (.iadd, 1) := by decide +kernel
theorem dX3_putOnTop_27 : decode cX3_putOnTop 27 = .ok (.iastore, 1) := by decide +kernel
theorem dX3_putOnTop_28 : decode cX3_putOnTop 28 = .ok (.return_, 1) := by decide +kernel
theorem dX3_putOnTop_29 : decode cX3_putOnTop 29 = .ok (.aload_n 0, 1) := by decide +kernel
theorem dX3_putOnTop_30 : decode cX3_putOnTop 30 = .ok (.getfield 7, 3) := by decide +kernel
theorem dX3_putOnTop_33 : decode cX3_putOnTop 33 = .ok (.bipush 11, 2) := by decide +kernel
theorem dX3_putOnTop_35 : decode cX3_putOnTop 35 = .ok (.iaload, 1) := by decide +kernel
theorem dX3_putOnTop_36 : decode cX3_putOnTop 36 = .ok (.istore_n 3, 1) := by decide +kernel
theorem dX3_putOnTop_37 : decode cX3_putOnTop 37 = .ok (.iload_n 3, 1) := by decide +kernel
theorem dX3_putOnTop_38 : decode cX3_putOnTop 38 = .ok (.ifCond .le 53, 3) := by decide +kernel
theorem dX3_putOnTop_41 : decode cX3_putOnTop 41 = .ok (.aload_n 0, 1) := by decide +kernel
theorem dX3_putOnTop_42 : decode cX3_putOnTop 42 = .ok (.getfield 7, 3) := by decide +kernel
theorem dX3_putOnTop_45 : decode cX3_putOnTop 45 = .ok (.iconst 0, 1) := by decide +kernel
theorem dX3_putOnTop_46 : decode cX3_putOnTop 46 = .ok (.iload_n 3, 1) := by decide +kernel
theorem dX3_putOnTop_47 : decode cX3_putOnTop 47 = .ok (.invokestatic 33, 3) := by decide +kernel
theorem dX3_putOnTop_50 : decode cX3_putOnTop 50 = .ok (.aload_n 0, 1) := by decide +kernel
theorem dX3_putOnTop_51 : decode cX3_putOnTop 51 = .ok (.getfield 7, 3) := by decide +kernel
theorem dX3_putOnTop_54 : decode cX3_putOnTop 54 = .ok (.iconst 0, 1) := by decide +kernel
theorem dX3_putOnTop_55 : decode cX3_putOnTop 55 = .ok (.iload_n 3, 1) := by decide +kernel
theorem dX3_putOnTop_56 : decode cX3_putOnTop 56 = .ok (.iconst 1, 1) := by decide +kernel
theorem dX3_putOnTop_57 : decode cX3_putOnTop 57 = .ok (.isub, 1) := by decide +kernel
theorem dX3_putOnTop_58 : decode cX3_putOnTop 58 = .ok (.invokestatic 33, 3) := by decide +kernel
theorem dX3_putOnTop_61 : decode cX3_putOnTop 61 = .ok (.iaload, 1) := by decide +kernel
theorem dX3_putOnTop_62 : decode cX3_putOnTop 62 = .ok (.iastore, 1) := by decide +kernel
theorem dX3_putOnTop_63 : decode cX3_putOnTop 63 = .ok (.aload_n 0, 1) := by decide +kernel
theorem dX3_putOnTop_64 : decode cX3_putOnTop 64 = .ok (.getfield 7, 3) := by decide +kernel
theorem dX3_putOnTop_67 : decode cX3_putOnTop 67 = .ok (.iconst 0, 1) := by decide +kernel
theorem dX3_putOnTop_68 : decode cX3_putOnTop 68 = .ok (.iload_n 3, 1) := by decide +kernel
theorem dX3_putOnTop_69 : decode cX3_putOnTop 69 = .ok (.invokestatic 41, 3) := by decide +kernel
theorem dX3_putOnTop_72 : decode cX3_putOnTop 72 = .ok (.aload_n 0, 1) := by decide +kernel
theorem dX3_putOnTop_73 : decode cX3_putOnTop 73 = .ok (.getfield 7, 3) := by decide +kernel
theorem dX3_putOnTop_76 : decode cX3_putOnTop 76 = .ok (.iconst 0, 1) := by decide +kernel
theorem dX3_putOnTop_77 : decode cX3_putOnTop 77 = .ok (.iload_n 3, 1) := by decide +kernel
theorem dX3_putOnTop_78 : decode cX3_putOnTop 78 = .ok (.iconst 1, 1) := by decide +kernel
theorem dX3_putOnTop_79 : decode cX3_putOnTop 79 = .ok (.isub, 1) := by decide +kernel
theorem dX3_putOnTop_80 : decode cX3_putOnTop 80 = .ok (.invokestatic 41, 3) := by decide +kernel
theorem dX3_putOnTop_83 : decode cX3_putOnTop 83 = .ok (.iaload, 1) := by decide +kernel
theorem dX3_putOnTop_84 : decode cX3_putOnTop 84 = .ok (.iastore, 1) := by decide +kernel
theorem dX3_putOnTop_85 : decode cX3_putOnTop 85 = .ok (.iinc 3 (-1), 3) := by decide +kernel
theorem dX3_putOnTop_88 : decode cX3_putOnTop 88 = .ok (.goto (-51), 3) := by decide +kernel
theorem dX3_putOnTop_91 : decode cX3_putOnTop 91 = .ok (.aload_n 0, 1) := by decide +kernel
theorem dX3_putOnTop_92 : decode cX3_putOnTop 92 = .ok (.getfield 7, 3) := by decide +kernel
theorem dX3_putOnTop_95 : decode cX3_putOnTop 95 = .ok (.iconst 0, 1) := by decide +kernel
theorem dX3_putOnTop_96 : decode cX3_putOnTop 96 = .ok (.iconst 0, 1) := by decide +kernel
theorem dX3_putOnTop_97 : decode cX3_putOnTop 97 = .ok (.invokestatic 33, 3) := by decide +kernel
theorem dX3_putOnTop_100 : decode cX3_putOnTop 100 = .ok (.iload_n 1, 1) := by decide +kernel
theorem dX3_putOnTop_101 : decode cX3_putOnTop 101 = .ok (.iastore, 1) := by decide +kernel
theorem dX3_putOnTop_102 : decode cX3_putOnTop 102 = .ok (.aload_n 0, 1) := by decide +kernel
theorem dX3_putOnTop_103 : decode cX3_putOnTop 103 = .ok (.getfield 7, 3) := by decide +kernel
theorem dX3_putOnTop_106 : decode cX3_putOnTop 106 = .ok (.iconst 0, 1) := by decide +kernel
theorem dX3_putOnTop_107 : decode cX3_putOnTop 107 = .ok (.iconst 0, 1) := by decide +kernel
theorem dX3_putOnTop_108 : decode cX3_putOnTop 108 = .ok (.invokestatic 41, 3) := by decide +kernel
theorem dX3_putOnTop_111 : decode cX3_putOnTop 111 = .ok (.iload_n 2, 1) := by decide +kernel
theorem dX3_putOnTop_112 : decode cX3_putOnTop 112 = .ok (.iastore, 1) := by decide +kernel
theorem dX3_putOnTop_113 : decode cX3_putOnTop 113 = .ok (.aload_n 0, 1) := by decide +kernel
theorem dX3_putOnTop_114 : decode cX3_putOnTop 114 = .ok (.getfield 7, 3) := by decide +kernel
theorem dX3_putOnTop_117 : decode cX3_putOnTop 117 = .ok (.bipush 11, 2) := by decide +kernel
theorem dX3_putOnTop_119 : decode cX3_putOnTop 119 = .ok (.dup2, 1) := by decide +kernel
theorem dX3_putOnTop_120 : decode cX3_putOnTop 120 = .ok (.iaload, 1) := by decide +kernel
theorem dX3_putOnTop_121 : decode cX3_putOnTop 121 = .ok (.iconst 1, 1) := by decide +kernel
theorem dX3_putOnTop_122 : decode cX3_putOnTop 122 = .ok (.iadd, 1) := by decide +kernel
theorem dX3_putOnTop_123 : decode cX3_putOnTop 123 = .ok (.iastore, 1) := by decide +kernel
theorem dX3_putOnTop_124 : decode cX3_putOnTop 124 = .ok (.return_, 1) := by decide +kernel
theorem dX3_enter_0 : decode cX3_enter 0 = .ok (.aload_n 0, 1) := by decide +kernel
theorem dX3_enter_1 : decode cX3_enter 1 = .ok (.getfield 7, 3) := by decide +kernel
theorem dX3_enter_4 : decode cX3_enter 4 = .ok (.bipush 12, 2) := by decide +kernel
theorem dX3_enter_6 : decode cX3_enter 6 = .ok (.iaload, 1) := by decide +kernel
theorem dX3_enter_7 : decode cX3_enter 7 = .ok (.iconst 1, 1) := by decide +kernel
theorem dX3_enter_8 : decode cX3_enter 8 = .ok (.isub, 1) := by decide +kernel
theorem dX3_enter_9 : decode cX3_enter 9 = .ok (.istore_n 3, 1) := by decide +kernel
theorem dX3_enter_10 : decode cX3_enter 10 = .ok (.aload_n 0, 1) := by decide +kernel
theorem dX3_enter_11 : decode cX3_enter 11 = .ok (.getfield 7, 3) := by decide +kernel
theorem dX3_enter_14 : decode cX3_enter 14 = .ok (.iconst 1, 1) := by decide +kernel
theorem dX3_enter_15 : decode cX3_enter 15 = .ok (.iload_n 3, 1) := by decide +kernel
theorem dX3_enter_16 : decode cX3_enter 16 = .ok (.invokestatic 41, 3) := by decide +kernel
theorem dX3_enter_19 : decode cX3_enter 19 = .ok (.iaload, 1) := by decide +kernel
theorem dX3_enter_20 : decode cX3_enter 20 = .ok (.iload_n 2, 1) := by decide +kernel
theorem dX3_enter_21 : decode cX3_enter 21 = .ok (.if_icmp .ne 18, 3) := by decide +kernel
theorem dX3_enter_24 : decode cX3_enter 24 = .ok (.aload_n 0, 1) := by decide +kernel
theorem dX3_enter_25 : decode cX3_enter 25 = .ok (.getfield 7, 3) := by decide +kernel
theorem dX3_enter_28 : decode cX3_enter 28 = .ok (.iconst 1, 1) := by decide +kernel
theorem dX3_enter_29 : decode cX3_enter 29 = .ok (.iload_n 3, 1) := by decide +kernel
theorem dX3_enter_30 : decode cX3_enter 30 = .ok (.invokestatic 33, 3) := by decide +kernel
theorem dX3_enter_33 : decode cX3_enter 33 = .ok (.dup2, 1) := by decide +kernel
theorem dX3_enter_34 : decode cX3_enter 34 = .ok (.iaload, 1) := by decide +kernel
theorem dX3_enter_35 : decode cX3_enter 35 = .ok (.iload_n 1, 1) := by decide +kernel
theorem dX3_enter_36 : decode cX3_enter 36 = .ok (.iadd, 1) := by decide +kernel
theorem dX3_enter_37 : decode cX3_enter 37 = .ok (.iastore, 1) := by decide +kernel
theorem dX3_enter_38 : decode cX3_enter 38 = .ok (.return_, 1) := by decide +kernel
theorem dX3_enter_39 : decode cX3_enter 39 = .ok (.aload_n 0, 1) := by decide +kernel
theorem dX3_enter_40 : decode cX3_enter 40 = .ok (.getfield 7, 3) := by decide +kernel
theorem dX3_enter_43 : decode cX3_enter 43 = .ok (.iconst 1, 1) := by decide +kernel
theorem dX3_enter_44 : decode cX3_enter 44 = .ok (.iload_n 3, 1) := by decide +kernel
theorem dX3_enter_45 : decode cX3_enter 45 = .ok (.iconst 1, 1) := by decide +kernel
theorem dX3_enter_46 : decode cX3_enter 46 = .ok (.iadd, 1) := by decide +kernel
theorem dX3_enter_47 : decode cX3_enter 47 = .ok (.invokestatic 33, 3) := by decide +kernel
theorem dX3_enter_50 : decode cX3_enter 50 = .ok (.iload_n 1, 1) := by decide +kernel
theorem dX3_enter_51 : decode cX3_enter 51 = .ok (.iastore, 1) := by decide +kernel
theorem dX3_enter_52 : decode cX3_enter 52 = .ok (.aload_n 0, 1) := by decide +kernel
theorem dX3_enter_53 : decode cX3_enter 53 = .ok (.getfield 7, 3) := by decide +kernel
theorem dX3_enter_56 : decode cX3_enter 56 = .ok (.iconst 1, 1) := by decide +kernel
theorem dX3_enter_57 : decode cX3_enter 57 = .ok (.iload_n 3, 1) := by decide +kernel
theorem dX3_enter_58 : decode cX3_enter 58 = .ok (.iconst 1, 1) := by decide +kernel
theorem dX3_enter_59 : decode cX3_enter 59 = .ok (.iadd, 1) := by decide +kernel
theorem dX3_enter_60 : decode cX3_enter 60 = .ok (.invokestatic 41, 3) := by decide +kernel
theorem dX3_enter_63 : decode cX3_enter 63 = .ok (.iload_n 2, 1) := by decide +kernel
theorem dX3_enter_64 : decode cX3_enter 64 = .ok (.iastore, 1) := by decide +kernel
theorem dX3_enter_65 : decode cX3_enter 65 = .ok (.aload_n 0, 1) := by decide +kernel
theorem dX3_enter_66 : decode cX3_enter 66 = .ok (.getfield 7, 3) := by decide +kernel
theorem dX3_enter_69 : decode cX3_enter 69 = .ok (.bipush 12, 2) := by decide +kernel
theorem dX3_enter_71 : decode cX3_enter 71 = .ok (.dup2, 1) := by decide +kernel
theorem dX3_enter_72 : decode cX3_enter 72 = .ok (.iaload, 1) := by decide +kernel
theorem dX3_enter_73 : decode cX3_enter 73 = .ok (.iconst 1, 1) := by decide +kernel
theorem dX3_enter_74 : decode cX3_enter 74 = .ok (.iadd, 1) := by decide +kernel
theorem dX3_enter_75 : decode cX3_enter 75 = .ok (.iastore, 1) := by decide +kernel
theorem dX3_enter_76 : decode cX3_enter 76 = .ok (.return_, 1) := by decide +kernel
theorem dX3_passOver_0 : decode cX3_passOver 0 = .ok (.iload_n 1, 1) := by decide +kernel
theorem dX3_passOver_1 : decode cX3_passOver 1 = .ok (.istore_n 2, 1) := by decide +kernel
theorem dX3_passOver_2 : decode cX3_passOver 2 = .ok (.iload_n 2, 1) := by decide +kernel
theorem dX3_passOver_3 : decode cX3_passOver 3 = .ok (.ifCond .le 110, 3) := by decide +kernel
theorem dX3_passOver_6 : decode cX3_passOver 6 = .ok (.aload_n 0, 1) := by decide +kernel
theorem dX3_passOver_7 : decode cX3_passOver 7 = .ok (.getfield 7, 3) := by decide +kernel
theorem dX3_passOver_10 : decode cX3_passOver 10 = .ok (.bipush 11, 2) := by decide +kernel
theorem dX3_passOver_12 : decode cX3_passOver 12 = .ok (.iaload, 1) := by decide +kernel
theorem dX3_passOver_13 : decode cX3_passOver 13 = .ok (.iconst 1, 1) := by decide +kernel
theorem dX3_passOver_14 : decode cX3_passOver 14 = .ok (.isub, 1) := by decide +kernel
theorem dX3_passOver_15 : decode cX3_passOver 15 = .ok (.istore_n 3, 1) := by decide +kernel
theorem dX3_passOver_16 : decode cX3_passOver 16 = .ok (.aload_n 0, 1) := by decide +kernel
theorem dX3_passOver_17 : decode cX3_passOver 17 = .ok (.getfield 7, 3) := by decide +kernel
theorem dX3_passOver_20 : decode cX3_passOver 20 = .ok (.iconst 0, 1) := by decide +kernel
theorem dX3_passOver_21 : decode cX3_passOver 21 = .ok (.iload_n 3, 1) := by decide +kernel
theorem dX3_passOver_22 : decode cX3_passOver 22 = .ok (.invokestatic 33, 3) := by decide +kernel
theorem dX3_passOver_25 : decode cX3_passOver 25 = .ok (.iaload, 1) := by decide +kernel
theorem dX3_passOver_26 : decode cX3_passOver 26 = .ok (.iload_n 2, 1) := by decide +kernel
theorem dX3_passOver_27 : decode cX3_passOver 27 = .ok (.if_icmp .ge 16, 3) := by decide +kernel
theorem dX3_passOver_30 : decode cX3_passOver 30 = .ok (.aload_n 0, 1) := by decide +kernel
theorem dX3_passOver_31 : decode cX3_passOver 31 = .ok (.getfield 7, 3) := by decide +kernel
theorem dX3_passOver_34 : decode cX3_passOver 34 = .ok (.iconst 0, 1) := by decide +kernel
theorem dX3_passOver_35 : decode cX3_passOver 35 = .ok (.iload_n 3, 1) := by decide +kernel
theorem dX3_passOver_36 : decode cX3_passOver 36 = .ok (.invokestatic 33, 3) := by decide +kernel
theorem dX3_passOver_39 : decode cX3_passOver 39 = .ok (.iaload, 1) := by decide +kernel
theorem dX3_passOver_40 : decode cX3_passOver 40 = .ok (.goto 4, 3) := by decide +kernel
theorem dX3_passOver_43 : decode cX3_passOver 43 = .ok (.iload_n 2, 1) := by decide +kernel
theorem dX3_passOver_44 : decode cX3_passOver 44 = .ok (.istore 4, 2) := by decide +kernel
theorem dX3_passOver_46 : decode cX3_passOver 46 = .ok (.aload_n 0, 1) := by decide +kernel
theorem dX3_passOver_47 : decode cX3_passOver 47 = .ok (.iload 4, 2) := by decide +kernel
theorem dX3_passOver_49 : decode cX3_passOver 49 = .ok (.aload_n 0, 1) := by decide +kernel
theorem dX3_passOver_50 : decode cX3_passOver 50 = .ok (.getfield 7, 3) := by decide +kernel
theorem dX3_passOver_53 : decode cX3_passOver 53 = .ok (.iconst 0, 1) := by decide +kernel
theorem dX3_passOver_54 : decode cX3_passOver 54 = .ok (.iload_n 3, 1) := by decide +kernel
theorem dX3_passOver_55 : decode cX3_passOver 55 = .ok (.invokestatic 41, 3) := by decide +kernel
theorem dX3_passOver_58 : decode cX3_passOver 58 = .ok (.iaload, 1) := by decide +kernel
theorem dX3_passOver_59 : decode cX3_passOver 59 = .ok (.invokevirtual 44, 3) := by decide +kernel
theorem dX3_passOver_62 : decode cX3_passOver 62 = .ok (.aload_n 0, 1) := by decide +kernel
theorem dX3_passOver_63 : decode cX3_passOver 63 = .ok (.getfield 7, 3) := by decide +kernel
theorem dX3_passOver_66 : decode cX3_passOver 66 = .ok (.iconst 0, 1) := by decide +kernel
theorem dX3_passOver_67 : decode cX3_passOver 67 = .ok (.iload_n 3, 1) := by decide +kernel
theorem dX3_passOver_68 : decode cX3_passOver 68 = .ok (.invokestatic 33, 3) := by decide +kernel
theorem dX3_passOver_71 : decode cX3_passOver 71 = .ok (.dup2, 1) := by decide +kernel
theorem dX3_passOver_72 : decode cX3_passOver 72 = .ok (.iaload, 1) := by decide +kernel
theorem dX3_passOver_73 : decode cX3_passOver 73 = .ok (.iload 4, 2) := by decide +kernel
theorem dX3_passOver_75 : decode cX3_passOver 75 = .ok (.isub, 1) := by decide +kernel
theorem dX3_passOver_76 : decode cX3_passOver 76 = .ok (.iastore, 1) := by decide +kernel
theorem dX3_passOver_77 : decode cX3_passOver 77 = .ok (.aload_n 0, 1) := by decide +kernel
theorem dX3_passOver_78 : decode cX3_passOver 78 = .ok (.getfield 7, 3) := by decide +kernel
theorem dX3_passOver_81 : decode cX3_passOver 81 = .ok (.bipush 11, 2) := by decide +kernel
theorem dX3_passOver_83 : decode cX3_passOver 83 = .ok (.dup2, 1) := by decide +kernel
theorem dX3_passOver_84 : decode cX3_passOver 84 = .ok (.iaload, 1) := by decide +kernel
theorem dX3_passOver_85 : decode cX3_passOver 85 = .ok (.aload_n 0, 1) := by decide +kernel
theorem dX3_passOver_86 : decode cX3_passOver 86 = .ok (.getfield 7, 3) := by decide +kernel
theorem dX3_passOver_89 : decode cX3_passOver 89 = .ok (.iconst 0, 1) := by decide +kernel
theorem dX3_passOver_90 : decode cX3_passOver 90 = .ok (.iload_n 3, 1) := by decide +kernel
theorem dX3_passOver_91 : decode cX3_passOver 91 = .ok (.invokestatic 33, 3) := by decide +kernel
theorem dX3_passOver_94 : decode cX3_passOver 94 = .ok (.iaload, 1) := by decide +kernel
theorem dX3_passOver_95 : decode cX3_passOver 95 = .ok (.ifCond .ne 7, 3) := by decide +kernel
theorem dX3_passOver_98 : decode cX3_passOver 98 = .ok (.iconst 1, 1) := by decide +kernel
theorem dX3_passOver_99 : decode cX3_passOver 99 = .ok (.goto 4, 3) := by decide +kernel
theorem dX3_passOver_102 : decode cX3_passOver 102 = .ok (.iconst 0, 1) := by decide +kernel
theorem dX3_passOver_103 : decode cX3_passOver 103 = .ok (.isub, 1) := by decide +kernel
theorem dX3_passOver_104 : decode cX3_passOver 104 = .ok (.iastore, 1) := by decide +kernel
theorem dX3_passOver_105 : decode cX3_passOver 105 = .ok (.iload_n 2, 1) := by decide +kernel
theorem dX3_passOver_106 : decode cX3_passOver 106 = .ok (.iload 4, 2) := by decide +kernel
theorem dX3_passOver_108 : decode cX3_passOver 108 = .ok (.isub, 1) := by decide +kernel
theorem dX3_passOver_109 : decode cX3_passOver 109 = .ok (.istore_n 2, 1) := by decide +kernel
theorem dX3_passOver_110 : decode cX3_passOver 110 = .ok (.goto (-108), 3) := by decide +kernel
theorem dX3_passOver_113 : decode cX3_passOver 113 = .ok (.return_, 1) := by decide +kernel
theorem dX3_leave_0 : decode cX3_leave 0 = .ok (.iload_n 1, 1) := by decide +kernel
theorem dX3_leave_1 : decode cX3_leave 1 = .ok (.istore_n 2, 1) := by decide +kernel
theorem dX3_leave_2 : decode cX3_leave 2 = .ok (.iconst 0, 1) := by decide +kernel
theorem dX3_leave_3 : decode cX3_leave 3 = .ok (.istore_n 3, 1) := by decide +kernel
theorem dX3_leave_4 : decode cX3_leave 4 = .ok (.iload_n 2, 1) := by decide +kernel
theorem dX3_leave_5 : decode cX3_leave 5 = .ok (.aload_n 0, 1) := by decide +kernel
theorem dX3_leave_6 : decode cX3_leave 6 = .ok (.getfield 7, 3) := by decide +kernel
theorem dX3_leave_9 : decode cX3_leave 9 = .ok (.iconst 1, 1) := by decide +kernel
theorem dX3_leave_10 : decode cX3_leave 10 = .ok (.iload_n 3, 1) := by decide +kernel
theorem dX3_leave_11 : decode cX3_leave 11 = .ok (.invokestatic 33, 3) := by decide +kernel
theorem dX3_leave_14 : decode cX3_leave 14 = .ok (.iaload, 1) := by decide +kernel
theorem dX3_leave_15 : decode cX3_leave 15 = .ok (.if_icmp .lt 22, 3) := by decide +kernel
theorem dX3_leave_18 : decode cX3_leave 18 = .ok (.iload_n 2, 1) := by decide +kernel
theorem dX3_leave_19 : decode cX3_leave 19 = .ok (.aload_n 0, 1) := by decide +kernel
theorem dX3_leave_20 : decode cX3_leave 20 = .ok (.getfield 7, 3) := by decide +kernel
theorem dX3_leave_23 : decode cX3_leave 23 = .ok (.iconst 1, 1) := by decide +kernel
theorem dX3_leave_24 : decode cX3_leave 24 = .ok (.iload_n 3, 1) := by decide +kernel
theorem dX3_leave_25 : decode cX3_leave 25 = .ok (.invokestatic 33, 3) := by decide +kernel
theorem dX3_leave_28 : decode cX3_leave 28 = .ok (.iaload, 1) := by decide +kernel
theorem dX3_leave_29 : decode cX3_leave 29 = .ok (.isub, 1) := by decide +kernel
theorem dX3_leave_30 : decode cX3_leave 30 = .ok (.istore_n 2, 1) := by decide +kernel
theorem dX3_leave_31 : decode cX3_leave 31 = .ok (.iinc 3 1, 3) := by decide +kernel
theorem dX3_leave_34 : decode cX3_leave 34 = .ok (.goto (-30), 3) := by decide +kernel
theorem dX3_leave_37 : decode cX3_leave 37 = .ok (.aload_n 0, 1) := by decide +kernel
theorem dX3_leave_38 : decode cX3_leave 38 = .ok (.getfield 7, 3) := by decide +kernel
theorem dX3_leave_41 : decode cX3_leave 41 = .ok (.iconst 1, 1) := by decide +kernel
theorem dX3_leave_42 : decode cX3_leave 42 = .ok (.iload_n 3, 1) := by decide +kernel
theorem dX3_leave_43 : decode cX3_leave 43 = .ok (.invokestatic 33, 3) := by decide +kernel
theorem dX3_leave_46 : decode cX3_leave 46 = .ok (.dup2, 1) := by decide +kernel
theorem dX3_leave_47 : decode cX3_leave 47 = .ok (.iaload, 1) := by decide +kernel
theorem dX3_leave_48 : decode cX3_leave 48 = .ok (.iload_n 2, 1) := by decide +kernel
theorem dX3_leave_49 : decode cX3_leave 49 = .ok (.isub, 1) := by decide +kernel
theorem dX3_leave_50 : decode cX3_leave 50 = .ok (.iastore, 1) := by decide +kernel
theorem dX3_leave_51 : decode cX3_leave 51 = .ok (.aload_n 0, 1) := by decide +kernel
theorem dX3_leave_52 : decode cX3_leave 52 = .ok (.getfield 7, 3) := by decide +kernel
theorem dX3_leave_55 : decode cX3_leave 55 = .ok (.bipush 12, 2) := by decide +kernel
theorem dX3_leave_57 : decode cX3_leave 57 = .ok (.dup2, 1) := by decide +kernel
theorem dX3_leave_58 : decode cX3_leave 58 = .ok (.iaload, 1) := by decide +kernel
theorem dX3_leave_59 : decode cX3_leave 59 = .ok (.iload_n 3, 1) := by decide +kernel
theorem dX3_leave_60 : decode cX3_leave 60 = .ok (.isub, 1) := by decide +kernel
theorem dX3_leave_61 : decode cX3_leave 61 = .ok (.iastore, 1) := by decide +kernel
theorem dX3_leave_62 : decode cX3_leave 62 = .ok (.iconst 0, 1) := by decide +kernel
theorem dX3_leave_63 : decode cX3_leave 63 = .ok (.istore 4, 2) := by decide +kernel
theorem dX3_leave_65 : decode cX3_leave 65 = .ok (.iload 4, 2) := by decide +kernel
theorem dX3_leave_67 : decode cX3_leave 67 = .ok (.aload_n 0, 1) := by decide +kernel
theorem dX3_leave_68 : decode cX3_leave 68 = .ok (.getfield 7, 3) := by decide +kernel
theorem dX3_leave_71 : decode cX3_leave 71 = .ok (.bipush 12, 2) := by decide +kernel
theorem dX3_leave_73 : decode cX3_leave 73 = .ok (.iaload, 1) := by decide +kernel
theorem dX3_leave_74 : decode cX3_leave 74 = .ok (.if_icmp .ge 61, 3) := by decide +kernel
theorem dX3_leave_77 : decode cX3_leave 77 = .ok (.iload_n 3, 1) := by decide +kernel
theorem dX3_leave_78 : decode cX3_leave 78 = .ok (.ifCond .le 57, 3) := by decide +kernel
theorem dX3_leave_81 : decode cX3_leave 81 = .ok (.aload_n 0, 1) := by decide +kernel
theorem dX3_leave_82 : decode cX3_leave 82 = .ok (.getfield 7, 3) := by decide +kernel
theorem dX3_leave_85 : decode cX3_leave 85 = .ok (.iconst 1, 1) := by decide +kernel
theorem dX3_leave_86 : decode cX3_leave 86 = .ok (.iload 4, 2) := by decide +kernel
theorem dX3_leave_88 : decode cX3_leave 88 = .ok (.invokestatic 33, 3) := by decide +kernel
theorem dX3_leave_91 : decode cX3_leave 91 = .ok (.aload_n 0, 1) := by decide +kernel
theorem dX3_leave_92 : decode cX3_leave 92 = .ok (.getfield 7, 3) := by decide +kernel
theorem dX3_leave_95 : decode cX3_leave 95 = .ok (.iconst 1, 1) := by decide +kernel
theorem dX3_leave_96 : decode cX3_leave 96 = .ok (.iload 4, 2) := by decide +kernel
theorem dX3_leave_98 : decode cX3_leave 98 = .ok (.iload_n 3, 1) := by decide +kernel
theorem dX3_leave_99 : decode cX3_leave 99 = .ok (.iadd, 1) := by decide +kernel
theorem dX3_leave_100 : decode cX3_leave 100 = .ok (.invokestatic 33, 3) := by decide +kernel
theorem dX3_leave_103 : decode cX3_leave 103 = .ok (.iaload, 1) := by decide +kernel
theorem dX3_leave_104 : decode cX3_leave 104 = .ok (.iastore, 1) := by decide +kernel
theorem dX3_leave_105 : decode cX3_leave 105 = .ok (.aload_n 0, 1) := by decide +kernel
theorem dX3_leave_106 : decode cX3_leave 106 = .ok (.getfield 7, 3) := by decide +kernel
theorem dX3_leave_109 : decode cX3_leave 109 = .ok (.iconst 1, 1) := by decide +kernel
theorem dX3_leave_110 : decode cX3_leave 110 = .ok (.iload 4, 2) := by decide +kernel
theorem dX3_leave_112 : decode cX3_leave 112 = .ok (.invokestatic 41, 3) := by decide +kernel
theorem dX3_leave_115 : decode cX3_leave 115 = .ok (.aload_n 0, 1) := by decide +kernel
theorem dX3_leave_116 : decode cX3_leave 116 = .ok (.getfield 7, 3) := by decide +kernel
theorem dX3_leave_119 : decode cX3_leave 119 = .ok (.iconst 1, 1) := by decide +kernel
theorem dX3_leave_120 : decode cX3_leave 120 = .ok (.iload 4, 2) := by decide +kernel
theorem dX3_leave_122 : decode cX3_leave 122 = .ok (.iload_n 3, 1) := by decide +kernel
theorem dX3_leave_123 : decode cX3_leave 123 = .ok (.iadd, 1) := by decide +kernel
theorem dX3_leave_124 : decode cX3_leave 124 = .ok (.invokestatic 41, 3) := by decide +kernel
theorem dX3_leave_127 : decode cX3_leave 127 = .ok (.iaload, 1) := by decide +kernel
theorem dX3_leave_128 : decode cX3_leave 128 = .ok (.iastore, 1) := by decide +kernel
theorem dX3_leave_129 : decode cX3_leave 129 = .ok (.iinc 4 1, 3) := by decide +kernel
theorem dX3_leave_132 : decode cX3_leave 132 = .ok (.goto (-67), 3) := by decide +kernel
theorem dX3_leave_135 : decode cX3_leave 135 = .ok (.return_, 1) := by decide +kernel
theorem dX3_pumpMud_0 : decode cX3_pumpMud 0 = .ok (.aload_n 0, 1) := by decide +kernel
theorem dX3_pumpMud_1 : decode cX3_pumpMud 1 = .ok (.iload_n 1, 1) := by decide +kernel
theorem dX3_pumpMud_2 : decode cX3_pumpMud 2 = .ok (.iload_n 2, 1) := by decide +kernel
theorem dX3_pumpMud_3 : decode cX3_pumpMud 3 = .ok (.invokevirtual 48, 3) := by decide +kernel
theorem dX3_pumpMud_6 : decode cX3_pumpMud 6 = .ok (.aload_n 0, 1) := by decide +kernel
theorem dX3_pumpMud_7 : decode cX3_pumpMud 7 = .ok (.iload_n 1, 1) := by decide +kernel
theorem dX3_pumpMud_8 : decode cX3_pumpMud 8 = .ok (.invokevirtual 51, 3) := by decide +kernel
theorem dX3_pumpMud_11 : decode cX3_pumpMud 11 = .ok (.aload_n 0, 1) := by decide +kernel
theorem dX3_pumpMud_12 : decode cX3_pumpMud 12 = .ok (.iload_n 1, 1) := by decide +kernel
theorem dX3_pumpMud_13 : decode cX3_pumpMud 13 = .ok (.invokevirtual 55, 3) := by decide +kernel
theorem dX3_pumpMud_16 : decode cX3_pumpMud 16 = .ok (.return_, 1) := by decide +kernel
theorem dX3_pressureOf_0 : decode cX3_pressureOf 0 = .ok (.iload_n 2, 1) := by decide +kernel
theorem dX3_pressureOf_1 : decode cX3_pressureOf 1 = .ok (.aload_n 0, 1) := by decide +kernel
theorem dX3_pressureOf_2 : decode cX3_pressureOf 2 = .ok (.getfield 7, 3) := by decide +kernel
theorem dX3_pressureOf_5 : decode cX3_pressureOf 5 = .ok (.iconst 1, 1) := by decide +kernel
theorem dX3_pressureOf_6 : decode cX3_pressureOf 6 = .ok (.iload_n 1, 1) := by decide +kernel
theorem dX3_pressureOf_7 : decode cX3_pressureOf 7 = .ok (.iadd, 1) := by decide +kernel
theorem dX3_pressureOf_8 : decode cX3_pressureOf 8 = .ok (.iaload, 1) := by decide +kernel
theorem dX3_pressureOf_9 : decode cX3_pressureOf 9 = .ok (.imul, 1) := by decide +kernel
theorem dX3_pressureOf_10 : decode cX3_pressureOf 10 = .ok (.istore_n 3, 1) := by decide +kernel
theorem dX3_pressureOf_11 : decode cX3_pressureOf 11 = .ok (.lconst 0, 1) := by decide +kernel
theorem dX3_pressureOf_12 : decode cX3_pressureOf 12 = .ok (.lstore 4, 2) := by decide +kernel
theorem dX3_pressureOf_14 : decode cX3_pressureOf 14 = .ok (.iconst 0, 1) := by decide +kernel
theorem dX3_pressureOf_15 : decode cX3_pressureOf 15 = .ok (.istore 6, 2) := by decide +kernel
theorem dX3_pressureOf_17 : decode cX3_pressureOf 17 = .ok (.iload 6, 2) := by decide +kernel
theorem dX3_pressureOf_19 : decode cX3_pressureOf 19 = .ok (.aload_n 0, 1) := by decide +kernel
theorem dX3_pressureOf_20 : decode cX3_pressureOf 20 = .ok (.getfield 7, 3) := by decide +kernel
theorem dX3_pressureOf_23 : decode cX3_pressureOf 23 = .ok (.bipush 11, 2) := by decide +kernel
theorem dX3_pressureOf_25 : decode cX3_pressureOf 25 = .ok (.iload_n 1, 1) := by decide +kernel
theorem dX3_pressureOf_26 : decode cX3_pressureOf 26 = .ok (.iadd, 1) := by decide +kernel
theorem dX3_pressureOf_27 : decode cX3_pressureOf 27 = .ok (.iaload, 1) := by decide +kernel
theorem dX3_pressureOf_28 : decode cX3_pressureOf 28 = .ok (.if_icmp .ge 71, 3) := by decide +kernel
theorem dX3_pressureOf_31 : decode cX3_pressureOf 31 = .ok (.iload_n 3, 1) := by decide +kernel
theorem dX3_pressureOf_32 : decode cX3_pressureOf 32 = .ok (.ifCond .le 67, 3) := by decide +kernel
theorem dX3_pressureOf_35 : decode cX3_pressureOf 35 = .ok (.aload_n 0, 1) := by decide +kernel
theorem dX3_pressureOf_36 : decode cX3_pressureOf 36 = .ok (.getfield 7, 3) := by decide +kernel
theorem dX3_pressureOf_39 : decode cX3_pressureOf 39 = .ok (.iload_n 1, 1) := by decide +kernel
theorem dX3_pressureOf_40 : decode cX3_pressureOf 40 = .ok (.iload 6, 2) := by decide +kernel
theorem dX3_pressureOf_42 : decode cX3_pressureOf 42 = .ok (.invokestatic 33, 3) := by decide +kernel
theorem dX3_pressureOf_45 : decode cX3_pressureOf 45 = .ok (.iaload, 1) := by decide +kernel
theorem dX3_pressureOf_46 : decode cX3_pressureOf 46 = .ok (.iload_n 3, 1) := by decide +kernel
theorem dX3_pressureOf_47 : decode cX3_pressureOf 47 = .ok (.if_icmp .ge 17, 3) := by decide +kernel
theorem dX3_pressureOf_50 : decode cX3_pressureOf 50 = .ok (.aload_n 0, 1) := by decide +kernel
theorem dX3_pressureOf_51 : decode cX3_pressureOf 51 = .ok (.getfield 7, 3) := by decide +kernel
theorem dX3_pressureOf_54 : decode cX3_pressureOf 54 = .ok (.iload_n 1, 1) := by decide +kernel
theorem dX3_pressureOf_55 : decode cX3_pressureOf 55 = .ok (.iload 6, 2) := by decide +kernel
theorem dX3_pressureOf_57 : decode cX3_pressureOf 57 = .ok (.invokestatic 33, 3) := by decide +kernel
theorem dX3_pressureOf_60 : decode cX3_pressureOf 60 = .ok (.iaload, 1) := by decide +kernel
theorem dX3_pressureOf_61 : decode cX3_pressureOf 61 = .ok (.goto 4, 3) := by decide +kernel
theorem dX3_pressureOf_64 : decode cX3_pressureOf 64 = .ok (.iload_n 3, 1) := by decide +kernel
theorem dX3_pressureOf_65 : decode cX3_pressureOf 65 = .ok (.istore 7, 2) := by decide +kernel
theorem dX3_pressureOf_67 : decode cX3_pressureOf 67 = .ok (.lload 4, 2) := by decide +kernel
theorem dX3_pressureOf_69 : decode cX3_pressureOf 69 = .ok (.iload 7, 2) := by decide +kernel
theorem dX3_pressureOf_71 : decode cX3_pressureOf 71 = .ok (.i2l, 1) := by decide +kernel
theorem dX3_pressureOf_72 : decode cX3_pressureOf 72 = .ok (.aload_n 0, 1) := by decide +kernel
theorem dX3_pressureOf_73 : decode cX3_pressureOf 73 = .ok (.getfield 7, 3) := by decide +kernel
theorem dX3_pressureOf_76 : decode cX3_pressureOf 76 = .ok (.iload_n 1, 1) := by decide +kernel
theorem dX3_pressureOf_77 : decode cX3_pressureOf 77 = .ok (.iload 6, 2) := by decide +kernel
theorem dX3_pressureOf_79 : decode cX3_pressureOf 79 = .ok (.invokestatic 41, 3) := by decide +kernel
theorem dX3_pressureOf_82 : decode cX3_pressureOf 82 = .ok (.iaload, 1) := by decide +kernel
theorem dX3_pressureOf_83 : decode cX3_pressureOf 83 = .ok (.i2l, 1) := by decide +kernel
theorem dX3_pressureOf_84 : decode cX3_pressureOf 84 = .ok (.lmul, 1) := by decide +kernel
theorem dX3_pressureOf_85 : decode cX3_pressureOf 85 = .ok (.ladd, 1) := by decide +kernel
theorem dX3_pressureOf_86 : decode cX3_pressureOf 86 = .ok (.lstore 4, 2) := by decide +kernel
theorem dX3_pressureOf_88 : decode cX3_pressureOf 88 = .ok (.iload_n 3, 1) := by decide +kernel
theorem dX3_pressureOf_89 : decode cX3_pressureOf 89 = .ok (.iload 7, 2) := by decide +kernel
theorem dX3_pressureOf_91 : decode cX3_pressureOf 91 = .ok (.isub, 1) := by decide +kernel
theorem dX3_pressureOf_92 : decode cX3_pressureOf 92 = .ok (.istore_n 3, 1) := by decide +kernel
theorem dX3_pressureOf_93 : decode cX3_pressureOf 93 = .ok (.iinc 6 1, 3) := by decide +kernel
theorem dX3_pressureOf_96 : decode cX3_pressureOf 96 = .ok (.goto (-79), 3) := by decide +kernel
theorem dX3_pressureOf_99 : decode cX3_pressureOf 99 = .ok (.ldc2_w 58, 3) := by decide +kernel
theorem dX3_pressureOf_102 : decode cX3_pressureOf 102 = .ok (.lload 4, 2) := by decide +kernel
theorem dX3_pressureOf_104 : decode cX3_pressureOf 104 = .ok (.lmul, 1) := by decide +kernel
theorem dX3_pressureOf_105 : decode cX3_pressureOf 105 = .ok (.ldc2_w 60, 3) := by decide +kernel
theorem dX3_pressureOf_108 : decode cX3_pressureOf 108 = .ok (.aload_n 0, 1) := by decide +kernel
theorem dX3_pressureOf_109 : decode cX3_pressureOf 109 = .ok (.getfield 7, 3) := by decide +kernel
theorem dX3_pressureOf_112 : decode cX3_pressureOf 112 = .ok (.iconst 1, 1) := by decide +kernel
theorem dX3_pressureOf_113 : decode cX3_pressureOf 113 = .ok (.iload_n 1, 1) := by decide +kernel
theorem dX3_pressureOf_114 : decode cX3_pressureOf 114 = .ok (.iadd, 1) := by decide +kernel
theorem dX3_pressureOf_115 : decode cX3_pressureOf 115 = .ok (.iaload, 1) := by decide +kernel
theorem dX3_pressureOf_116 : decode cX3_pressureOf 116 = .ok (.i2l, 1) := by decide +kernel
theorem dX3_pressureOf_117 : decode cX3_pressureOf 117 = .ok (.lmul, 1) := by decide +kernel
theorem dX3_pressureOf_118 : decode cX3_pressureOf 118 = .ok (.ldiv, 1) := by decide +kernel
theorem dX3_pressureOf_119 : decode cX3_pressureOf 119 = .ok (.l2i, 1) := by decide +kernel
theorem dX3_pressureOf_120 : decode cX3_pressureOf 120 = .ok (.ireturn, 1) := by decide +kernel
theorem dX3_lacking_0 : decode cX3_lacking 0 = .ok (.aload_n 0, 1) := by decide +kernel
theorem dX3_lacking_1 : decode cX3_lacking 1 = .ok (.getfield 7, 3) := by decide +kernel
theorem dX3_lacking_4 : decode cX3_lacking 4 = .ok (.iconst 5, 1) := by decide +kernel
theorem dX3_lacking_5 : decode cX3_lacking 5 = .ok (.iaload, 1) := by decide +kernel
theorem dX3_lacking_6 : decode cX3_lacking 6 = .ok (.aload_n 0, 1) := by decide +kernel
theorem dX3_lacking_7 : decode cX3_lacking 7 = .ok (.iload_n 1, 1) := by decide +kernel
theorem dX3_lacking_8 : decode cX3_lacking 8 = .ok (.aload_n 0, 1) := by decide +kernel
theorem dX3_lacking_9 : decode cX3_lacking 9 = .ok (.getfield 7, 3) := by decide +kernel
theorem dX3_lacking_12 : decode cX3_lacking 12 = .ok (.iconst 0, 1) := by decide +kernel
theorem dX3_lacking_13 : decode cX3_lacking 13 = .ok (.iaload, 1) := by decide +kernel
theorem dX3_lacking_14 : decode cX3_lacking 14 = .ok (.invokevirtual 62, 3) := by decide +kernel
theorem dX3_lacking_17 : decode cX3_lacking 17 = .ok (.isub, 1) := by decide +kernel
theorem dX3_lacking_18 : decode cX3_lacking 18 = .ok (.istore_n 2, 1) := by decide +kernel
theorem dX3_lacking_19 : decode cX3_lacking 19 = .ok (.iload_n 2, 1) := by decide +kernel
theorem dX3_lacking_20 : decode cX3_lacking 20 = .ok (.ifCond .le 7, 3) := by decide +kernel
theorem dX3_lacking_23 : decode cX3_lacking 23 = .ok (.iload_n 2, 1) := by decide +kernel
theorem dX3_lacking_24 : decode cX3_lacking 24 = .ok (.goto 4, 3) := by decide +kernel
theorem dX3_lacking_27 : decode cX3_lacking 27 = .ok (.iconst 0, 1) := by decide +kernel
theorem dX3_lacking_28 : decode cX3_lacking 28 = .ok (.ireturn, 1) := by decide +kernel
theorem dX3_atShoe_0 : decode cX3_atShoe 0 = .ok (.aload_n 0, 1) := by decide +kernel
theorem dX3_atShoe_1 : decode cX3_atShoe 1 = .ok (.iconst 1, 1) := by decide +kernel
theorem dX3_atShoe_2 : decode cX3_atShoe 2 = .ok (.invokevirtual 65, 3) := by decide +kernel
theorem dX3_atShoe_5 : decode cX3_atShoe 5 = .ok (.aload_n 0, 1) := by decide +kernel
theorem dX3_atShoe_6 : decode cX3_atShoe 6 = .ok (.iconst 1, 1) := by decide +kernel
theorem dX3_atShoe_7 : decode cX3_atShoe 7 = .ok (.aload_n 0, 1) := by decide +kernel
theorem dX3_atShoe_8 : decode cX3_atShoe 8 = .ok (.getfield 7, 3) := by decide +kernel
theorem dX3_atShoe_11 : decode cX3_atShoe 11 = .ok (.iconst 3, 1) := by decide +kernel
theorem dX3_atShoe_12 : decode cX3_atShoe 12 = .ok (.iaload, 1) := by decide +kernel
theorem dX3_atShoe_13 : decode cX3_atShoe 13 = .ok (.invokevirtual 62, 3) := by decide +kernel
theorem dX3_atShoe_16 : decode cX3_atShoe 16 = .ok (.iadd, 1) := by decide +kernel
theorem dX3_atShoe_17 : decode cX3_atShoe 17 = .ok (.ireturn, 1) := by decide +kernel
theorem dX3_check_0 : decode cX3_check 0 = .ok (.aload_n 0, 1) := by decide +kernel
theorem dX3_check_1 : decode cX3_check 1 = .ok (.invokevirtual 68, 3) := by decide +kernel
theorem dX3_check_4 : decode cX3_check 4 = .ok (.istore_n 1, 1) := by decide +kernel
theorem dX3_check_5 : decode cX3_check 5 = .ok (.aload_n 0, 1) := by decide +kernel
theorem dX3_check_6 : decode cX3_check 6 = .ok (.getfield 7, 3) := by decide +kernel
theorem dX3_check_9 : decode cX3_check 9 = .ok (.bipush 9, 2) := by decide +kernel
theorem dX3_check_11 : decode cX3_check 11 = .ok (.dup2, 1) := by decide +kernel
theorem dX3_check_12 : decode cX3_check 12 = .ok (.iaload, 1) := by decide +kernel
theorem dX3_check_13 : decode cX3_check 13 = .ok (.iload_n 1, 1) := by decide +kernel
theorem dX3_check_14 : decode cX3_check 14 = .ok (.aload_n 0, 1) := by decide +kernel
theorem dX3_check_15 : decode cX3_check 15 = .ok (.getfield 7, 3) := by decide +kernel
theorem dX3_check_18 : decode cX3_check 18 = .ok (.bipush 7, 2) := by decide +kernel
theorem dX3_check_20 : decode cX3_check 20 = .ok (.iaload, 1) := by decide +kernel
theorem dX3_check_21 : decode cX3_check 21 = .ok (.if_icmp .le 7, 3) := by decide +kernel
theorem dX3_check_24 : decode cX3_check 24 = .ok (.iconst 1, 1) := by decide +kernel
theorem dX3_check_25 : decode cX3_check 25 = .ok (.goto 4, 3) := by decide +kernel
theorem dX3_check_28 : decode cX3_check 28 = .ok (.iconst 0, 1) := by decide +kernel
theorem dX3_check_29 : decode cX3_check 29 = .ok (.iadd, 1) := by decide +kernel
theorem dX3_check_30 : decode cX3_check 30 = .ok (.iastore, 1) := by decide +kernel
theorem dX3_check_31 : decode cX3_check 31 = .ok (.aload_n 0, 1) := by decide +kernel
theorem dX3_check_32 : decode cX3_check 32 = .ok (.getfield 7, 3) := by decide +kernel
theorem dX3_check_35 : decode cX3_check 35 = .ok (.bipush 10, 2) := by decide +kernel
theorem dX3_check_37 : decode cX3_check 37 = .ok (.iload_n 1, 1) := by decide +kernel
theorem dX3_check_38 : decode cX3_check 38 = .ok (.aload_n 0, 1) := by decide +kernel
theorem dX3_check_39 : decode cX3_check 39 = .ok (.getfield 7, 3) := by decide +kernel
theorem dX3_check_42 : decode cX3_check 42 = .ok (.bipush 10, 2) := by decide +kernel
theorem dX3_check_44 : decode cX3_check 44 = .ok (.iaload, 1) := by decide +kernel
theorem dX3_check_45 : decode cX3_check 45 = .ok (.if_icmp .le 7, 3) := by decide +kernel
theorem dX3_check_48 : decode cX3_check 48 = .ok (.iload_n 1, 1) := by decide +kernel
theorem dX3_check_49 : decode cX3_check 49 = .ok (.goto 10, 3) := by decide +kernel
theorem dX3_check_52 : decode cX3_check 52 = .ok (.aload_n 0, 1) := by decide +kernel
theorem dX3_check_53 : decode cX3_check 53 = .ok (.getfield 7, 3) := by decide +kernel
theorem dX3_check_56 : decode cX3_check 56 = .ok (.bipush 10, 2) := by decide +kernel
theorem dX3_check_58 : decode cX3_check 58 = .ok (.iaload, 1) := by decide +kernel
theorem dX3_check_59 : decode cX3_check 59 = .ok (.iastore, 1) := by decide +kernel
theorem dX3_check_60 : decode cX3_check 60 = .ok (.return_, 1) := by decide +kernel
theorem dX3_setGeometry_0 : decode cX3_setGeometry 0 = .ok (.iload_n 1, 1) := by decide +kernel
theorem dX3_setGeometry_1 : decode cX3_setGeometry 1 = .ok (.bipush 100, 2) := by decide +kernel
theorem dX3_setGeometry_3 : decode cX3_setGeometry 3 = .ok (.sipush 3000, 3) := by decide +kernel
theorem dX3_setGeometry_6 : decode cX3_setGeometry 6 = .ok (.invokestatic 72, 3) := by decide +kernel
theorem dX3_setGeometry_9 : decode cX3_setGeometry 9 = .ok (.ifCond .eq 33, 3) := by decide +kernel
theorem dX3_setGeometry_12 : decode cX3_setGeometry 12 = .ok (.iload_n 2, 1) := by decide +kernel
theorem dX3_setGeometry_13 : decode cX3_setGeometry 13 = .ok (.iconst 1, 1) := by decide +kernel
theorem dX3_setGeometry_14 : decode cX3_setGeometry 14 = .ok (.bipush 20, 2) := by decide +kernel
theorem dX3_setGeometry_16 : decode cX3_setGeometry 16 = .ok (.invokestatic 72, 3) := by decide +kernel
theorem dX3_setGeometry_19 : decode cX3_setGeometry 19 = .ok (.ifCond .eq 23, 3) := by decide +kernel
theorem dX3_setGeometry_22 : decode cX3_setGeometry 22 = .ok (.iload_n 3, 1) := by decide +kernel
theorem dX3_setGeometry_23 : decode cX3_setGeometry 23 = .ok (.iconst 5, 1) := by decide +kernel
theorem dX3_setGeometry_24 : decode cX3_setGeometry 24 = .ok (.bipush 60, 2) := by decide +kernel
theorem dX3_setGeometry_26 : decode cX3_setGeometry 26 = .ok (.invokestatic 72, 3) := by decide +kernel
theorem dX3_setGeometry_29 : decode cX3_setGeometry 29 = .ok (.ifCond .eq 13, 3) := by decide +kernel
theorem dX3_setGeometry_32 : decode cX3_setGeometry 32 = .ok (.iload 4, 2) := by decide +kernel
theorem dX3_setGeometry_34 : decode cX3_setGeometry 34 = .ok (.iconst 1, 1) := by decide +kernel
theorem dX3_setGeometry_35 : decode cX3_setGeometry 35 = .ok (.iload_n 1, 1) := by decide +kernel
theorem dX3_setGeometry_36 : decode cX3_setGeometry 36 = .ok (.invokestatic 72, 3) := by decide +kernel
theorem dX3_setGeometry_39 : decode cX3_setGeometry 39 = .ok (.ifCond .ne 10, 3) := by decide +kernel
theorem dX3_setGeometry_42 : decode cX3_setGeometry 42 = .ok (.aload_n 0, 1) := by decide +kernel
theorem dX3_setGeometry_43 : decode cX3_setGeometry 43 = .ok (.bipush (-2), 2) := by decide +kernel
theorem dX3_setGeometry_45 : decode cX3_setGeometry 45 = .ok (.invokevirtual 76, 3) := by decide +kernel
theorem dX3_setGeometry_48 : decode cX3_setGeometry 48 = .ok (.ireturn, 1) := by decide +kernel
theorem dX3_setGeometry_49 : decode cX3_setGeometry 49 = .ok (.aload_n 0, 1) := by decide +kernel
theorem dX3_setGeometry_50 : decode cX3_setGeometry 50 = .ok (.invokevirtual 79, 3) := by decide +kernel
theorem dX3_setGeometry_53 : decode cX3_setGeometry 53 = .ok (.aload_n 0, 1) := by decide +kernel
theorem dX3_setGeometry_54 : decode cX3_setGeometry 54 = .ok (.getfield 7, 3) := by decide +kernel
theorem dX3_setGeometry_57 : decode cX3_setGeometry 57 = .ok (.iconst 0, 1) := by decide +kernel
theorem dX3_setGeometry_58 : decode cX3_setGeometry 58 = .ok (.iload_n 1, 1) := by decide +kernel
theorem dX3_setGeometry_59 : decode cX3_setGeometry 59 = .ok (.iastore, 1) := by decide +kernel
theorem dX3_setGeometry_60 : decode cX3_setGeometry 60 = .ok (.aload_n 0, 1) := by decide +kernel
theorem dX3_setGeometry_61 : decode cX3_setGeometry 61 = .ok (.getfield 7, 3) := by decide +kernel
theorem dX3_setGeometry_64 : decode cX3_setGeometry 64 = .ok (.iconst 1, 1) := by decide +kernel
theorem dX3_setGeometry_65 : decode cX3_setGeometry 65 = .ok (.iload_n 2, 1) := by decide +kernel
theorem dX3_setGeometry_66 : decode cX3_setGeometry 66 = .ok (.iastore, 1) := by decide +kernel
theorem dX3_setGeometry_67 : decode cX3_setGeometry 67 = .ok (.aload_n 0, 1) := by decide +kernel
theorem dX3_setGeometry_68 : decode cX3_setGeometry 68 = .ok (.getfield 7, 3) := by decide +kernel
theorem dX3_setGeometry_71 : decode cX3_setGeometry 71 = .ok (.iconst 2, 1) := by decide +kernel
theorem dX3_setGeometry_72 : decode cX3_setGeometry 72 = .ok (.iload_n 3, 1) := by decide +kernel
theorem dX3_setGeometry_73 : decode cX3_setGeometry 73 = .ok (.iastore, 1) := by decide +kernel
theorem dX3_setGeometry_74 : decode cX3_setGeometry 74 = .ok (.aload_n 0, 1) := by decide +kernel
theorem dX3_setGeometry_75 : decode cX3_setGeometry 75 = .ok (.getfield 7, 3) := by decide +kernel
theorem dX3_setGeometry_78 : decode cX3_setGeometry 78 = .ok (.iconst 3, 1) := by decide +kernel
theorem dX3_setGeometry_79 : decode cX3_setGeometry 79 = .ok (.iload 4, 2) := by decide +kernel
theorem dX3_setGeometry_81 : decode cX3_setGeometry 81 = .ok (.iastore, 1) := by decide +kernel
theorem dX3_setGeometry_82 : decode cX3_setGeometry 82 = .ok (.aload_n 0, 1) := by decide +kernel
theorem dX3_setGeometry_83 : decode cX3_setGeometry 83 = .ok (.invokevirtual 22, 3) := by decide +kernel
theorem dX3_setGeometry_86 : decode cX3_setGeometry 86 = .ok (.aload_n 0, 1) := by decide +kernel
theorem dX3_setGeometry_87 : decode cX3_setGeometry 87 = .ok (.iconst 0, 1) := by decide +kernel
theorem dX3_setGeometry_88 : decode cX3_setGeometry 88 = .ok (.invokevirtual 37, 3) := by decide +kernel
theorem dX3_setGeometry_91 : decode cX3_setGeometry 91 = .ok (.aload_n 0, 1) := by decide +kernel
theorem dX3_setGeometry_92 : decode cX3_setGeometry 92 = .ok (.iconst 1, 1) := by decide +kernel
theorem dX3_setGeometry_93 : decode cX3_setGeometry 93 = .ok (.invokevirtual 37, 3) := by decide +kernel
theorem dX3_setGeometry_96 : decode cX3_setGeometry 96 = .ok (.iadd, 1) := by decide +kernel
theorem dX3_setGeometry_97 : decode cX3_setGeometry 97 = .ok (.ireturn, 1) := by decide +kernel
theorem dX3_set_0 : decode cX3_set 0 = .ok (.iload_n 2, 1) := by decide +kernel
theorem dX3_set_1 : decode cX3_set 1 = .ok (.iload_n 3, 1) := by decide +kernel
theorem dX3_set_2 : decode cX3_set 2 = .ok (.iload 4, 2) := by decide +kernel
theorem dX3_set_4 : decode cX3_set 4 = .ok (.invokestatic 72, 3) := by decide +kernel
theorem dX3_set_7 : decode cX3_set 7 = .ok (.ifCond .ne 10, 3) := by decide +kernel
theorem dX3_set_10 : decode cX3_set 10 = .ok (.aload_n 0, 1) := by decide +kernel
theorem dX3_set_11 : decode cX3_set 11 = .ok (.bipush (-2), 2) := by decide +kernel
theorem dX3_set_13 : decode cX3_set 13 = .ok (.invokevirtual 76, 3) := by decide +kernel
theorem dX3_set_16 : decode cX3_set 16 = .ok (.ireturn, 1) := by decide +kernel
theorem dX3_set_17 : decode cX3_set 17 = .ok (.aload_n 0, 1) := by decide +kernel
theorem dX3_set_18 : decode cX3_set 18 = .ok (.invokevirtual 79, 3) := by decide +kernel
theorem dX3_set_21 : decode cX3_set 21 = .ok (.aload_n 0, 1) := by decide +kernel
theorem dX3_set_22 : decode cX3_set 22 = .ok (.getfield 7, 3) := by decide +kernel
theorem dX3_set_25 : decode cX3_set 25 = .ok (.iload_n 1, 1) := by decide +kernel
theorem dX3_set_26 : decode cX3_set 26 = .ok (.iaload, 1) := by decide +kernel
theorem dX3_set_27 : decode cX3_set 27 = .ok (.istore 5, 2) := by decide +kernel
theorem dX3_set_29 : decode cX3_set 29 = .ok (.aload_n 0, 1) := by decide +kernel
theorem dX3_set_30 : decode cX3_set 30 = .ok (.getfield 7, 3) := by decide +kernel
theorem dX3_set_33 : decode cX3_set 33 = .ok (.iload_n 1, 1) := by decide +kernel
theorem dX3_set_34 : decode cX3_set 34 = .ok (.iload_n 2, 1) := by decide +kernel
theorem dX3_set_35 : decode cX3_set 35 = .ok (.iastore, 1) := by decide +kernel
theorem dX3_set_36 : decode cX3_set 36 = .ok (.iload 5, 2) := by decide +kernel
theorem dX3_set_38 : decode cX3_set 38 = .ok (.ireturn, 1) := by decide +kernel
theorem dX3_setMud_0 : decode cX3_setMud 0 = .ok (.aload_n 0, 1) := by decide +kernel
theorem dX3_setMud_1 : decode cX3_setMud 1 = .ok (.iconst 4, 1) := by decide +kernel
theorem dX3_setMud_2 : decode cX3_setMud 2 = .ok (.iload_n 1, 1) := by decide +kernel
theorem dX3_setMud_3 : decode cX3_setMud 3 = .ok (.iconst 1, 1) := by decide +kernel
theorem dX3_setMud_4 : decode cX3_setMud 4 = .ok (.sipush 2500, 3) := by decide +kernel
theorem dX3_setMud_7 : decode cX3_setMud 7 = .ok (.invokevirtual 82, 3) := by decide +kernel
theorem dX3_setMud_10 : decode cX3_setMud 10 = .ok (.ireturn, 1) := by decide +kernel
theorem dX3_setFormation_0 : decode cX3_setFormation 0 = .ok (.aload_n 0, 1) := by decide +kernel
theorem dX3_setFormation_1 : decode cX3_setFormation 1 = .ok (.iconst 5, 1) := by decide +kernel
theorem dX3_setFormation_2 : decode cX3_setFormation 2 = .ok (.iload_n 1, 1) := by decide +kernel
theorem dX3_setFormation_3 : decode cX3_setFormation 3 = .ok (.iconst 0, 1) := by decide +kernel
theorem dX3_setFormation_4 : decode cX3_setFormation 4 = .ok (.ldc 86, 2) := by decide +kernel
theorem dX3_setFormation_6 : decode cX3_setFormation 6 = .ok (.invokevirtual 82, 3) := by decide +kernel
theorem dX3_setFormation_9 : decode cX3_setFormation 9 = .ok (.ireturn, 1) := by decide +kernel
theorem dX3_setSlowPump_0 : decode cX3_setSlowPump 0 = .ok (.aload_n 0, 1) := by decide +kernel
theorem dX3_setSlowPump_1 : decode cX3_setSlowPump 1 = .ok (.bipush 6, 2) := by decide +kernel
theorem dX3_setSlowPump_3 : decode cX3_setSlowPump 3 = .ok (.iload_n 1, 1) := by decide +kernel
theorem dX3_setSlowPump_4 : decode cX3_setSlowPump 4 = .ok (.iconst 0, 1) := by decide +kernel
theorem dX3_setSlowPump_5 : decode cX3_setSlowPump 5 = .ok (.sipush 9999, 3) := by decide +kernel
theorem dX3_setSlowPump_8 : decode cX3_setSlowPump 8 = .ok (.invokevirtual 82, 3) := by decide +kernel
theorem dX3_setSlowPump_11 : decode cX3_setSlowPump 11 = .ok (.ireturn, 1) := by decide +kernel
theorem dX3_setFracture_0 : decode cX3_setFracture 0 = .ok (.aload_n 0, 1) := by decide +kernel
theorem dX3_setFracture_1 : decode cX3_setFracture 1 = .ok (.bipush 7, 2) := by decide +kernel
theorem dX3_setFracture_3 : decode cX3_setFracture 3 = .ok (.iload_n 1, 1) := by decide +kernel
theorem dX3_setFracture_4 : decode cX3_setFracture 4 = .ok (.iconst 0, 1) := by decide +kernel
theorem dX3_setFracture_5 : decode cX3_setFracture 5 = .ok (.ldc 86, 2) := by decide +kernel
theorem dX3_setFracture_7 : decode cX3_setFracture 7 = .ok (.invokevirtual 82, 3) := by decide +kernel
theorem dX3_setFracture_10 : decode cX3_setFracture 10 = .ok (.ireturn, 1) := by decide +kernel
theorem dX3_pump_0 : decode cX3_pump 0 = .ok (.iload_n 1, 1) := by decide +kernel
theorem dX3_pump_1 : decode cX3_pump 1 = .ok (.iconst 1, 1) := by decide +kernel
theorem dX3_pump_2 : decode cX3_pump 2 = .ok (.if_icmp .ge 10, 3) := by decide +kernel
theorem dX3_pump_5 : decode cX3_pump 5 = .ok (.aload_n 0, 1) := by decide +kernel
theorem dX3_pump_6 : decode cX3_pump 6 = .ok (.bipush (-2), 2) := by decide +kernel
theorem dX3_pump_8 : decode cX3_pump 8 = .ok (.invokevirtual 76, 3) := by decide +kernel
theorem dX3_pump_11 : decode cX3_pump 11 = .ok (.ireturn, 1) := by decide +kernel
theorem dX3_pump_12 : decode cX3_pump 12 = .ok (.iload_n 1, 1) := by decide +kernel
theorem dX3_pump_13 : decode cX3_pump 13 = .ok (.aload_n 0, 1) := by decide +kernel
theorem dX3_pump_14 : decode cX3_pump 14 = .ok (.iconst 0, 1) := by decide +kernel
theorem dX3_pump_15 : decode cX3_pump 15 = .ok (.invokevirtual 37, 3) := by decide +kernel
theorem dX3_pump_18 : decode cX3_pump 18 = .ok (.if_icmp .gt 12, 3) := by decide +kernel
theorem dX3_pump_21 : decode cX3_pump 21 = .ok (.iload_n 1, 1) := by decide +kernel
theorem dX3_pump_22 : decode cX3_pump 22 = .ok (.aload_n 0, 1) := by decide +kernel
theorem dX3_pump_23 : decode cX3_pump 23 = .ok (.iconst 1, 1) := by decide +kernel
theorem dX3_pump_24 : decode cX3_pump 24 = .ok (.invokevirtual 37, 3) := by decide +kernel
theorem dX3_pump_27 : decode cX3_pump 27 = .ok (.if_icmp .le 10, 3) := by decide +kernel
theorem dX3_pump_30 : decode cX3_pump 30 = .ok (.aload_n 0, 1) := by decide +kernel
theorem dX3_pump_31 : decode cX3_pump 31 = .ok (.bipush (-3), 2) := by decide +kernel
theorem dX3_pump_33 : decode cX3_pump 33 = .ok (.invokevirtual 76, 3) := by decide +kernel
theorem dX3_pump_36 : decode cX3_pump 36 = .ok (.ireturn, 1) := by decide +kernel
theorem dX3_pump_37 : decode cX3_pump 37 = .ok (.aload_n 0, 1) := by decide +kernel
theorem dX3_pump_38 : decode cX3_pump 38 = .ok (.invokevirtual 79, 3) := by decide +kernel
theorem dX3_pump_41 : decode cX3_pump 41 = .ok (.aload_n 0, 1) := by decide +kernel
theorem dX3_pump_42 : decode cX3_pump 42 = .ok (.iload_n 1, 1) := by decide +kernel
theorem dX3_pump_43 : decode cX3_pump 43 = .ok (.aload_n 0, 1) := by decide +kernel
theorem dX3_pump_44 : decode cX3_pump 44 = .ok (.getfield 7, 3) := by decide +kernel
theorem dX3_pump_47 : decode cX3_pump 47 = .ok (.iconst 4, 1) := by decide +kernel
theorem dX3_pump_48 : decode cX3_pump 48 = .ok (.iaload, 1) := by decide +kernel
theorem dX3_pump_49 : decode cX3_pump 49 = .ok (.invokevirtual 87, 3) := by decide +kernel
theorem dX3_pump_52 : decode cX3_pump 52 = .ok (.aload_n 0, 1) := by decide +kernel
theorem dX3_pump_53 : decode cX3_pump 53 = .ok (.invokevirtual 90, 3) := by decide +kernel
theorem dX3_pump_56 : decode cX3_pump 56 = .ok (.aload_n 0, 1) := by decide +kernel
theorem dX3_pump_57 : decode cX3_pump 57 = .ok (.iconst 1, 1) := by decide +kernel
theorem dX3_pump_58 : decode cX3_pump 58 = .ok (.invokevirtual 65, 3) := by decide +kernel
theorem dX3_pump_61 : decode cX3_pump 61 = .ok (.ireturn, 1) := by decide +kernel
theorem dX3_influx_0 : decode cX3_influx 0 = .ok (.iload_n 1, 1) := by decide +kernel
theorem dX3_influx_1 : decode cX3_influx 1 = .ok (.iconst 1, 1) := by decide +kernel
theorem dX3_influx_2 : decode cX3_influx 2 = .ok (.if_icmp .lt 14, 3) := by decide +kernel
theorem dX3_influx_5 : decode cX3_influx 5 = .ok (.iload_n 2, 1) := by decide +kernel
theorem dX3_influx_6 : decode cX3_influx 6 = .ok (.iconst 1, 1) := by decide +kernel
theorem dX3_influx_7 : decode cX3_influx 7 = .ok (.sipush 2500, 3) := by decide +kernel
theorem dX3_influx_10 : decode cX3_influx 10 = .ok (.invokestatic 72, 3) := by decide +kernel
theorem dX3_influx_13 : decode cX3_influx 13 = .ok (.ifCond .ne 10, 3) := by decide +kernel
theorem dX3_influx_16 : decode cX3_influx 16 = .ok (.aload_n 0, 1) := by decide +kernel
theorem dX3_influx_17 : decode cX3_influx 17 = .ok (.bipush (-2), 2) := by decide +kernel
theorem dX3_influx_19 : decode cX3_influx 19 = .ok (.invokevirtual 76, 3) := by decide +kernel
theorem dX3_influx_22 : decode cX3_influx 22 = .ok (.ireturn, 1) := by decide +kernel
theorem dX3_influx_23 : decode cX3_influx 23 = .ok (.iload_n 1, 1) := by decide +kernel
theorem dX3_influx_24 : decode cX3_influx 24 = .ok (.aload_n 0, 1) := by decide +kernel
theorem dX3_influx_25 : decode cX3_influx 25 = .ok (.iconst 1, 1) := by decide +kernel
theorem dX3_influx_26 : decode cX3_influx 26 = .ok (.invokevirtual 37, 3) := by decide +kernel
theorem dX3_influx_29 : decode cX3_influx 29 = .ok (.if_icmp .le 10, 3) := by decide +kernel
theorem dX3_influx_32 : decode cX3_influx 32 = .ok (.aload_n 0, 1) := by decide +kernel
theorem dX3_influx_33 : decode cX3_influx 33 = .ok (.bipush (-3), 2) := by decide +kernel
theorem dX3_influx_35 : decode cX3_influx 35 = .ok (.invokevirtual 76, 3) := by decide +kernel
theorem dX3_influx_38 : decode cX3_influx 38 = .ok (.ireturn, 1) := by decide +kernel
theorem dX3_influx_39 : decode cX3_influx 39 = .ok (.aload_n 0, 1) := by decide +kernel
theorem dX3_influx_40 : decode cX3_influx 40 = .ok (.invokevirtual 79, 3) := by decide +kernel
theorem dX3_influx_43 : decode cX3_influx 43 = .ok (.aload_n 0, 1) := by decide +kernel
theorem dX3_influx_44 : decode cX3_influx 44 = .ok (.iload_n 1, 1) := by decide +kernel
theorem dX3_influx_45 : decode cX3_influx 45 = .ok (.iload_n 2, 1) := by decide +kernel
theorem dX3_influx_46 : decode cX3_influx 46 = .ok (.invokevirtual 44, 3) := by decide +kernel
theorem dX3_influx_49 : decode cX3_influx 49 = .ok (.aload_n 0, 1) := by decide +kernel
theorem dX3_influx_50 : decode cX3_influx 50 = .ok (.iload_n 1, 1) := by decide +kernel
theorem dX3_influx_51 : decode cX3_influx 51 = .ok (.invokevirtual 55, 3) := by decide +kernel
theorem dX3_influx_54 : decode cX3_influx 54 = .ok (.aload_n 0, 1) := by decide +kernel
theorem dX3_influx_55 : decode cX3_influx 55 = .ok (.getfield 7, 3) := by decide +kernel
theorem dX3_influx_58 : decode cX3_influx 58 = .ok (.bipush 8, 2) := by decide +kernel
theorem dX3_influx_60 : decode cX3_influx 60 = .ok (.dup2, 1) := by decide +kernel
theorem dX3_influx_61 : decode cX3_influx 61 = .ok (.iaload, 1) := by decide +kernel
theorem dX3_influx_62 : decode cX3_influx 62 = .ok (.iload_n 1, 1) := by decide +kernel
theorem dX3_influx_63 : decode cX3_influx 63 = .ok (.iadd, 1) := by decide +kernel
theorem dX3_influx_64 : decode cX3_influx 64 = .ok (.iastore, 1) := by decide +kernel
theorem dX3_influx_65 : decode cX3_influx 65 = .ok (.aload_n 0, 1) := by decide +kernel
theorem dX3_influx_66 : decode cX3_influx 66 = .ok (.invokevirtual 90, 3) := by decide +kernel
theorem dX3_influx_69 : decode cX3_influx 69 = .ok (.aload_n 0, 1) := by decide +kernel
theorem dX3_influx_70 : decode cX3_influx 70 = .ok (.iconst 1, 1) := by decide +kernel
theorem dX3_influx_71 : decode cX3_influx 71 = .ok (.invokevirtual 65, 3) := by decide +kernel
theorem dX3_influx_74 : decode cX3_influx 74 = .ok (.ireturn, 1) := by decide +kernel
theorem dX3_isColumn_0 : decode cX3_isColumn 0 = .ok (.iload_n 0, 1) := by decide +kernel
theorem dX3_isColumn_1 : decode cX3_isColumn 1 = .ok (.iconst 0, 1) := by decide +kernel
theorem dX3_isColumn_2 : decode cX3_isColumn 2 = .ok (.iconst 1, 1) := by decide +kernel
theorem dX3_isColumn_3 : decode cX3_isColumn 3 = .ok (.invokestatic 72, 3) := by decide +kernel
theorem dX3_isColumn_6 : decode cX3_isColumn 6 = .ok (.ireturn, 1) := by decide +kernel
theorem dX3_hydrostatic_0 : decode cX3_hydrostatic 0 = .ok (.iload_n 1, 1) := by decide +kernel
theorem dX3_hydrostatic_1 : decode cX3_hydrostatic 1 = .ok (.invokestatic 93, 3) := by decide +kernel
theorem dX3_hydrostatic_4 : decode cX3_hydrostatic 4 = .ok (.ifCond .eq 17, 3) := by decide +kernel
theorem dX3_hydrostatic_7 : decode cX3_hydrostatic 7 = .ok (.aload_n 0, 1) := by decide +kernel
theorem dX3_hydrostatic_8 : decode cX3_hydrostatic 8 = .ok (.iload_n 1, 1) := by decide +kernel
theorem dX3_hydrostatic_9 : decode cX3_hydrostatic 9 = .ok (.aload_n 0, 1) := by decide +kernel
theorem dX3_hydrostatic_10 : decode cX3_hydrostatic 10 = .ok (.getfield 7, 3) := by decide +kernel
theorem dX3_hydrostatic_13 : decode cX3_hydrostatic 13 = .ok (.iconst 0, 1) := by decide +kernel
theorem dX3_hydrostatic_14 : decode cX3_hydrostatic 14 = .ok (.iaload, 1) := by decide +kernel
theorem dX3_hydrostatic_15 : decode cX3_hydrostatic 15 = .ok (.invokevirtual 62, 3) := by decide +kernel
theorem dX3_hydrostatic_18 : decode cX3_hydrostatic 18 = .ok (.goto 9, 3) := by decide +kernel
theorem dX3_hydrostatic_21 : decode cX3_hydrostatic 21 = .ok (.aload_n 0, 1) := by decide +kernel
theorem dX3_hydrostatic_22 : decode cX3_hydrostatic 22 = .ok (.bipush (-2), 2) := by decide +kernel
theorem dX3_hydrostatic_24 : decode cX3_hydrostatic 24 = .ok (.invokevirtual 76, 3) := by decide +kernel
theorem dX3_hydrostatic_27 : decode cX3_hydrostatic 27 = .ok (.ireturn, 1) := by decide +kernel
theorem dX3_hydrostaticAbove_0 : decode cX3_hydrostaticAbove 0 = .ok (.iload_n 1, 1) := by decide +kernel
theorem dX3_hydrostaticAbove_1 : decode cX3_hydrostaticAbove 1 = .ok (.invokestatic 93, 3) := by decide +kernel
theorem dX3_hydrostaticAbove_4 : decode cX3_hydrostaticAbove 4 = .ok (.ifCond .eq 26, 3) := by decide +kernel
theorem dX3_hydrostaticAbove_7 : decode cX3_hydrostaticAbove 7 = .ok (.iload_n 2, 1) := by decide +kernel
theorem dX3_hydrostaticAbove_8 : decode cX3_hydrostaticAbove 8 = .ok (.iconst 0, 1) := by decide +kernel
theorem dX3_hydrostaticAbove_9 : decode cX3_hydrostaticAbove 9 = .ok (.aload_n 0, 1) := by decide +kernel
theorem dX3_hydrostaticAbove_10 : decode cX3_hydrostaticAbove 10 = .ok (.getfield 7, 3) := by decide +kernel
theorem dX3_hydrostaticAbove_13 : decode cX3_hydrostaticAbove 13 = .ok (.iconst 0, 1) := by decide +kernel
theorem dX3_hydrostaticAbove_14 : decode cX3_hydrostaticAbove 14 = .ok (.iaload, 1) := by decide +kernel
theorem dX3_hydrostaticAbove_15 : decode cX3_hydrostaticAbove 15 = .ok (.invokestatic 72, 3) := by decide +kernel
theorem dX3_hydrostaticAbove_18 : decode cX3_hydrostaticAbove 18 = .ok (.ifCond .eq 12, 3) := by decide +kernel
theorem dX3_hydrostaticAbove_21 : decode cX3_hydrostaticAbove 21 = .ok (.aload_n 0, 1) := by decide +kernel
theorem dX3_hydrostaticAbove_22 : decode cX3_hydrostaticAbove 22 = .ok (.iload_n 1, 1) := by decide +kernel
theorem dX3_hydrostaticAbove_23 : decode cX3_hydrostaticAbove 23 = .ok (.iload_n 2, 1) := by decide +kernel
theorem dX3_hydrostaticAbove_24 : decode cX3_hydrostaticAbove 24 = .ok (.invokevirtual 62, 3) := by decide +kernel
theorem dX3_hydrostaticAbove_27 : decode cX3_hydrostaticAbove 27 = .ok (.goto 9, 3) := by decide +kernel
theorem dX3_hydrostaticAbove_30 : decode cX3_hydrostaticAbove 30 = .ok (.aload_n 0, 1) := by decide +kernel
theorem dX3_hydrostaticAbove_31 : decode cX3_hydrostaticAbove 31 = .ok (.bipush (-2), 2) := by decide +kernel
theorem dX3_hydrostaticAbove_33 : decode cX3_hydrostaticAbove 33 = .ok (.invokevirtual 76, 3) := by decide +kernel
theorem dX3_hydrostaticAbove_36 : decode cX3_hydrostaticAbove 36 = .ok (.ireturn, 1) := by decide +kernel
theorem dX3_drillPipePressure_0 : decode cX3_drillPipePressure 0 = .ok (.aload_n 0, 1) := by decide +kernel
theorem dX3_drillPipePressure_1 : decode cX3_drillPipePressure 1 = .ok (.iconst 0, 1) := by decide +kernel
theorem dX3_drillPipePressure_2 : decode cX3_drillPipePressure 2 = .ok (.invokevirtual 65, 3) := by decide +kernel
theorem dX3_drillPipePressure_5 : decode cX3_drillPipePressure 5 = .ok (.ireturn, 1) := by decide +kernel
theorem dX3_casingPressure_0 : decode cX3_casingPressure 0 = .ok (.aload_n 0, 1) := by decide +kernel
theorem dX3_casingPressure_1 : decode cX3_casingPressure 1 = .ok (.iconst 1, 1) := by decide +kernel
theorem dX3_casingPressure_2 : decode cX3_casingPressure 2 = .ok (.invokevirtual 65, 3) := by decide +kernel
theorem dX3_casingPressure_5 : decode cX3_casingPressure 5 = .ok (.ireturn, 1) := by decide +kernel
theorem dX3_standpipePressure_0 : decode cX3_standpipePressure 0 = .ok (.aload_n 0, 1) := by decide +kernel
theorem dX3_standpipePressure_1 : decode cX3_standpipePressure 1 = .ok (.getfield 7, 3) := by decide +kernel
theorem dX3_standpipePressure_4 : decode cX3_standpipePressure 4 = .ok (.bipush 6, 2) := by decide +kernel
theorem dX3_standpipePressure_6 : decode cX3_standpipePressure 6 = .ok (.iaload, 1) := by decide +kernel
theorem dX3_standpipePressure_7 : decode cX3_standpipePressure 7 = .ok (.aload_n 0, 1) := by decide +kernel
theorem dX3_standpipePressure_8 : decode cX3_standpipePressure 8 = .ok (.iconst 0, 1) := by decide +kernel
theorem dX3_standpipePressure_9 : decode cX3_standpipePressure 9 = .ok (.invokevirtual 65, 3) := by decide +kernel
theorem dX3_standpipePressure_12 : decode cX3_standpipePressure 12 = .ok (.iadd, 1) := by decide +kernel
theorem dX3_standpipePressure_13 : decode cX3_standpipePressure 13 = .ok (.ireturn, 1) := by decide +kernel
theorem dX3_shoePressure_0 : decode cX3_shoePressure 0 = .ok (.aload_n 0, 1) := by decide +kernel
theorem dX3_shoePressure_1 : decode cX3_shoePressure 1 = .ok (.invokevirtual 68, 3) := by decide +kernel
theorem dX3_shoePressure_4 : decode cX3_shoePressure 4 = .ok (.ireturn, 1) := by decide +kernel
theorem dX3_allowedCasingPressure_0 : decode cX3_allowedCasingPressure 0 = .ok (.aload_n 0, 1) := by decide +kernel
theorem dX3_allowedCasingPressure_1 : decode cX3_allowedCasingPressure 1 = .ok (.getfield 7, 3) := by decide +kernel
theorem dX3_allowedCasingPressure_4 : decode cX3_allowedCasingPressure 4 = .ok (.bipush 7, 2) := by decide +kernel
theorem dX3_allowedCasingPressure_6 : decode cX3_allowedCasingPressure 6 = .ok (.iaload, 1) := by decide +kernel
theorem dX3_allowedCasingPressure_7 : decode cX3_allowedCasingPressure 7 = .ok (.aload_n 0, 1) := by decide +kernel
theorem dX3_allowedCasingPressure_8 : decode cX3_allowedCasingPressure 8 = .ok (.iconst 1, 1) := by decide +kernel
theorem dX3_allowedCasingPressure_9 : decode cX3_allowedCasingPressure 9 = .ok (.aload_n 0, 1) := by decide +kernel
theorem dX3_allowedCasingPressure_10 : decode cX3_allowedCasingPressure 10 = .ok (.getfield 7, 3) := by decide +kernel
theorem dX3_allowedCasingPressure_13 : decode cX3_allowedCasingPressure 13 = .ok (.iconst 3, 1) := by decide +kernel
theorem dX3_allowedCasingPressure_14 : decode cX3_allowedCasingPressure 14 = .ok (.iaload, 1) := by decide +kernel
theorem dX3_allowedCasingPressure_15 : decode cX3_allowedCasingPressure 15 = .ok (.invokevirtual 62, 3) := by decide +kernel
theorem dX3_allowedCasingPressure_18 : decode cX3_allowedCasingPressure 18 = .ok (.isub, 1) := by decide +kernel
theorem dX3_allowedCasingPressure_19 : decode cX3_allowedCasingPressure 19 = .ok (.ireturn, 1) := by decide +kernel
theorem dX3_leastDensity_0 : decode cX3_leastDensity 0 = .ok (.iconst 1, 1) := by decide +kernel
theorem dX3_leastDensity_1 : decode cX3_leastDensity 1 = .ok (.istore_n 1, 1) := by decide +kernel
theorem dX3_leastDensity_2 : decode cX3_leastDensity 2 = .ok (.iload_n 1, 1) := by decide +kernel
theorem dX3_leastDensity_3 : decode cX3_leastDensity 3 = .ok (.sipush 2500, 3) := by decide +kernel
theorem dX3_leastDensity_6 : decode cX3_leastDensity 6 = .ok (.if_icmp .gt 49, 3) := by decide +kernel
theorem dX3_leastDensity_9 : decode cX3_leastDensity 9 = .ok (.iload_n 1, 1) := by decide +kernel
theorem dX3_leastDensity_10 : decode cX3_leastDensity 10 = .ok (.i2l, 1) := by decide +kernel
theorem dX3_leastDensity_11 : decode cX3_leastDensity 11 = .ok (.aload_n 0, 1) := by decide +kernel
theorem dX3_leastDensity_12 : decode cX3_leastDensity 12 = .ok (.iconst 0, 1) := by decide +kernel
theorem dX3_leastDensity_13 : decode cX3_leastDensity 13 = .ok (.invokevirtual 37, 3) := by decide +kernel
theorem dX3_leastDensity_16 : decode cX3_leastDensity 16 = .ok (.i2l, 1) := by decide +kernel
theorem dX3_leastDensity_17 : decode cX3_leastDensity 17 = .ok (.lmul, 1) := by decide +kernel
theorem dX3_leastDensity_18 : decode cX3_leastDensity 18 = .ok (.lstore_n 2, 1) := by decide +kernel
theorem dX3_leastDensity_19 : decode cX3_leastDensity 19 = .ok (.ldc2_w 58, 3) := by decide +kernel
theorem dX3_leastDensity_22 : decode cX3_leastDensity 22 = .ok (.lload_n 2, 1) := by decide +kernel
theorem dX3_leastDensity_23 : decode cX3_leastDensity 23 = .ok (.lmul, 1) := by decide +kernel
theorem dX3_leastDensity_24 : decode cX3_leastDensity 24 = .ok (.ldc2_w 60, 3) := by decide +kernel
theorem dX3_leastDensity_27 : decode cX3_leastDensity 27 = .ok (.aload_n 0, 1) := by decide +kernel
theorem dX3_leastDensity_28 : decode cX3_leastDensity 28 = .ok (.getfield 7, 3) := by decide +kernel
theorem dX3_leastDensity_31 : decode cX3_leastDensity 31 = .ok (.iconst 1, 1) := by decide +kernel
theorem dX3_leastDensity_32 : decode cX3_leastDensity 32 = .ok (.iaload, 1) := by decide +kernel
theorem dX3_leastDensity_33 : decode cX3_leastDensity 33 = .ok (.i2l, 1) := by decide +kernel
theorem dX3_leastDensity_34 : decode cX3_leastDensity 34 = .ok (.lmul, 1) := by decide +kernel
theorem dX3_leastDensity_35 : decode cX3_leastDensity 35 = .ok (.ldiv, 1) := by decide +kernel
theorem dX3_leastDensity_36 : decode cX3_leastDensity 36 = .ok (.aload_n 0, 1) := by decide +kernel
theorem dX3_leastDensity_37 : decode cX3_leastDensity 37 = .ok (.getfield 7, 3) := by decide +kernel
theorem dX3_leastDensity_40 : decode cX3_leastDensity 40 = .ok (.iconst 5, 1) := by decide +kernel
theorem dX3_leastDensity_41 : decode cX3_leastDensity 41 = .ok (.iaload, 1) := by decide +kernel
theorem dX3_leastDensity_42 : decode cX3_leastDensity 42 = .ok (.i2l, 1) := by decide +kernel
theorem dX3_leastDensity_43 : decode cX3_leastDensity 43 = .ok (.lcmp, 1) := by decide +kernel
theorem dX3_leastDensity_44 : decode cX3_leastDensity 44 = .ok (.ifCond .lt 5, 3) := by decide +kernel
theorem dX3_leastDensity_47 : decode cX3_leastDensity 47 = .ok (.iload_n 1, 1) := by decide +kernel
theorem dX3_leastDensity_48 : decode cX3_leastDensity 48 = .ok (.ireturn, 1) := by decide +kernel
theorem dX3_leastDensity_49 : decode cX3_leastDensity 49 = .ok (.iinc 1 1, 3) := by decide +kernel
theorem dX3_leastDensity_52 : decode cX3_leastDensity 52 = .ok (.goto (-50), 3) := by decide +kernel
theorem dX3_leastDensity_55 : decode cX3_leastDensity 55 = .ok (.bipush (-4), 2) := by decide +kernel
theorem dX3_leastDensity_57 : decode cX3_leastDensity 57 = .ok (.ireturn, 1) := by decide +kernel
theorem dX3_killDensity_0 : decode cX3_killDensity 0 = .ok (.aload_n 0, 1) := by decide +kernel
theorem dX3_killDensity_1 : decode cX3_killDensity 1 = .ok (.invokevirtual 97, 3) := by decide +kernel
theorem dX3_killDensity_4 : decode cX3_killDensity 4 = .ok (.istore_n 1, 1) := by decide +kernel
theorem dX3_killDensity_5 : decode cX3_killDensity 5 = .ok (.iload_n 1, 1) := by decide +kernel
theorem dX3_killDensity_6 : decode cX3_killDensity 6 = .ok (.bipush (-4), 2) := by decide +kernel
theorem dX3_killDensity_8 : decode cX3_killDensity 8 = .ok (.if_icmp .ne 12, 3) := by decide +kernel
theorem dX3_killDensity_11 : decode cX3_killDensity 11 = .ok (.aload_n 0, 1) := by decide +kernel
theorem dX3_killDensity_12 : decode cX3_killDensity 12 = .ok (.bipush (-4), 2) := by decide +kernel
theorem dX3_killDensity_14 : decode cX3_killDensity 14 = .ok (.invokevirtual 76, 3) := by decide +kernel
theorem dX3_killDensity_17 : decode cX3_killDensity 17 = .ok (.goto 4, 3) := by decide +kernel
theorem dX3_killDensity_20 : decode cX3_killDensity 20 = .ok (.iload_n 1, 1) := by decide +kernel
theorem dX3_killDensity_21 : decode cX3_killDensity 21 = .ok (.ireturn, 1) := by decide +kernel
theorem dX3_pumpAll_0 : decode cX3_pumpAll 0 = .ok (.iload 4, 2) := by decide +kernel
theorem dX3_pumpAll_2 : decode cX3_pumpAll 2 = .ok (.istore 5, 2) := by decide +kernel
theorem dX3_pumpAll_4 : decode cX3_pumpAll 4 = .ok (.iconst 0, 1) := by decide +kernel
theorem dX3_pumpAll_5 : decode cX3_pumpAll 5 = .ok (.istore 6, 2) := by decide +kernel
theorem dX3_pumpAll_7 : decode cX3_pumpAll 7 = .ok (.iload 6, 2) := by decide +kernel
theorem dX3_pumpAll_9 : decode cX3_pumpAll 9 = .ok (.iload_n 1, 1) := by decide +kernel
theorem dX3_pumpAll_10 : decode cX3_pumpAll 10 = .ok (.if_icmp .ge 40, 3) := by decide +kernel
theorem dX3_pumpAll_13 : decode cX3_pumpAll 13 = .ok (.aload_n 0, 1) := by decide +kernel
theorem dX3_pumpAll_14 : decode cX3_pumpAll 14 = .ok (.iload_n 2, 1) := by decide +kernel
theorem dX3_pumpAll_15 : decode cX3_pumpAll 15 = .ok (.iload_n 3, 1) := by decide +kernel
theorem dX3_pumpAll_16 : decode cX3_pumpAll 16 = .ok (.invokevirtual 87, 3) := by decide +kernel
theorem dX3_pumpAll_19 : decode cX3_pumpAll 19 = .ok (.aload_n 0, 1) := by decide +kernel
theorem dX3_pumpAll_20 : decode cX3_pumpAll 20 = .ok (.invokevirtual 68, 3) := by decide +kernel
theorem dX3_pumpAll_23 : decode cX3_pumpAll 23 = .ok (.istore 7, 2) := by decide +kernel
theorem dX3_pumpAll_25 : decode cX3_pumpAll 25 = .ok (.iload 7, 2) := by decide +kernel
theorem dX3_pumpAll_27 : decode cX3_pumpAll 27 = .ok (.iload 5, 2) := by decide +kernel
theorem dX3_pumpAll_29 : decode cX3_pumpAll 29 = .ok (.if_icmp .le 8, 3) := by decide +kernel
theorem dX3_pumpAll_32 : decode cX3_pumpAll 32 = .ok (.iload 7, 2) := by decide +kernel
theorem dX3_pumpAll_34 : decode cX3_pumpAll 34 = .ok (.goto 5, 3) := by decide +kernel
theorem dX3_pumpAll_37 : decode cX3_pumpAll 37 = .ok (.iload 5, 2) := by decide +kernel
theorem dX3_pumpAll_39 : decode cX3_pumpAll 39 = .ok (.istore 5, 2) := by decide +kernel
theorem dX3_pumpAll_41 : decode cX3_pumpAll 41 = .ok (.iload 6, 2) := by decide +kernel
theorem dX3_pumpAll_43 : decode cX3_pumpAll 43 = .ok (.iload_n 2, 1) := by decide +kernel
theorem dX3_pumpAll_44 : decode cX3_pumpAll 44 = .ok (.iadd, 1) := by decide +kernel
theorem dX3_pumpAll_45 : decode cX3_pumpAll 45 = .ok (.istore 6, 2) := by decide +kernel
theorem dX3_pumpAll_47 : decode cX3_pumpAll 47 = .ok (.goto (-40), 3) := by decide +kernel
theorem dX3_pumpAll_50 : decode cX3_pumpAll 50 = .ok (.iload 5, 2) := by decide +kernel
theorem dX3_pumpAll_52 : decode cX3_pumpAll 52 = .ok (.ireturn, 1) := by decide +kernel
theorem dX3_killShoePressure_0 : decode cX3_killShoePressure 0 = .ok (.iload_n 1, 1) := by decide +kernel
theorem dX3_killShoePressure_1 : decode cX3_killShoePressure 1 = .ok (.iconst 0, 1) := by decide +kernel
theorem dX3_killShoePressure_2 : decode cX3_killShoePressure 2 = .ok (.iconst 1, 1) := by decide +kernel
theorem dX3_killShoePressure_3 : decode cX3_killShoePressure 3 = .ok (.invokestatic 72, 3) := by decide +kernel
theorem dX3_killShoePressure_6 : decode cX3_killShoePressure 6 = .ok (.ifCond .eq 15, 3) := by decide +kernel
theorem dX3_killShoePressure_9 : decode cX3_killShoePressure 9 = .ok (.iload_n 2, 1) := by decide +kernel
theorem dX3_killShoePressure_10 : decode cX3_killShoePressure 10 = .ok (.bipush 100, 2) := by decide +kernel
theorem dX3_killShoePressure_12 : decode cX3_killShoePressure 12 = .ok (.sipush 9000, 3) := by decide +kernel
theorem dX3_killShoePressure_15 : decode cX3_killShoePressure 15 = .ok (.invokestatic 72, 3) := by decide +kernel
theorem dX3_killShoePressure_18 : decode cX3_killShoePressure 18 = .ok (.ifCond .ne 10, 3) := by decide +kernel
theorem dX3_killShoePressure_21 : decode cX3_killShoePressure 21 = .ok (.aload_n 0, 1) := by decide +kernel
theorem dX3_killShoePressure_22 : decode cX3_killShoePressure 22 = .ok (.bipush (-2), 2) := by decide +kernel
theorem dX3_killShoePressure_24 : decode cX3_killShoePressure 24 = .ok (.invokevirtual 76, 3) := by decide +kernel
theorem dX3_killShoePressure_27 : decode cX3_killShoePressure 27 = .ok (.ireturn, 1) := by decide +kernel
theorem dX3_killShoePressure_28 : decode cX3_killShoePressure 28 = .ok (.iload_n 2, 1) := by decide +kernel
theorem dX3_killShoePressure_29 : decode cX3_killShoePressure 29 = .ok (.aload_n 0, 1) := by decide +kernel
theorem dX3_killShoePressure_30 : decode cX3_killShoePressure 30 = .ok (.iconst 0, 1) := by decide +kernel
theorem dX3_killShoePressure_31 : decode cX3_killShoePressure 31 = .ok (.invokevirtual 37, 3) := by decide +kernel
theorem dX3_killShoePressure_34 : decode cX3_killShoePressure 34 = .ok (.if_icmp .gt 12, 3) := by decide +kernel
theorem dX3_killShoePressure_37 : decode cX3_killShoePressure 37 = .ok (.iload_n 2, 1) := by decide +kernel
theorem dX3_killShoePressure_38 : decode cX3_killShoePressure 38 = .ok (.aload_n 0, 1) := by decide +kernel
theorem dX3_killShoePressure_39 : decode cX3_killShoePressure 39 = .ok (.iconst 1, 1) := by decide +kernel
theorem dX3_killShoePressure_40 : decode cX3_killShoePressure 40 = .ok (.invokevirtual 37, 3) := by decide +kernel
theorem dX3_killShoePressure_43 : decode cX3_killShoePressure 43 = .ok (.if_icmp .le 10, 3) := by decide +kernel
theorem dX3_killShoePressure_46 : decode cX3_killShoePressure 46 = .ok (.aload_n 0, 1) := by decide +kernel
theorem dX3_killShoePressure_47 : decode cX3_killShoePressure 47 = .ok (.bipush (-3), 2) := by decide +kernel
theorem dX3_killShoePressure_49 : decode cX3_killShoePressure 49 = .ok (.invokevirtual 76, 3) := by decide +kernel
theorem dX3_killShoePressure_52 : decode cX3_killShoePressure 52 = .ok (.ireturn, 1) := by decide +kernel
theorem dX3_killShoePressure_53 : decode cX3_killShoePressure 53 = .ok (.aload_n 0, 1) := by decide +kernel
theorem dX3_killShoePressure_54 : decode cX3_killShoePressure 54 = .ok (.invokevirtual 97, 3) := by decide +kernel
theorem dX3_killShoePressure_57 : decode cX3_killShoePressure 57 = .ok (.istore_n 3, 1) := by decide +kernel
theorem dX3_killShoePressure_58 : decode cX3_killShoePressure 58 = .ok (.iload_n 3, 1) := by decide +kernel
theorem dX3_killShoePressure_59 : decode cX3_killShoePressure 59 = .ok (.bipush (-4), 2) := by decide +kernel
theorem dX3_killShoePressure_61 : decode cX3_killShoePressure 61 = .ok (.if_icmp .ne 10, 3) := by decide +kernel
theorem dX3_killShoePressure_64 : decode cX3_killShoePressure 64 = .ok (.aload_n 0, 1) := by decide +kernel
theorem dX3_killShoePressure_65 : decode cX3_killShoePressure 65 = .ok (.bipush (-4), 2) := by decide +kernel
theorem dX3_killShoePressure_67 : decode cX3_killShoePressure 67 = .ok (.invokevirtual 76, 3) := by decide +kernel
theorem dX3_killShoePressure_70 : decode cX3_killShoePressure 70 = .ok (.ireturn, 1) := by decide +kernel
theorem dX3_killShoePressure_71 : decode cX3_killShoePressure 71 = .ok (.aload_n 0, 1) := by decide +kernel
theorem dX3_killShoePressure_72 : decode cX3_killShoePressure 72 = .ok (.getfield 7, 3) := by decide +kernel
theorem dX3_killShoePressure_75 : decode cX3_killShoePressure 75 = .ok (.iconst 0, 1) := by decide +kernel
theorem dX3_killShoePressure_76 : decode cX3_killShoePressure 76 = .ok (.aload_n 0, 1) := by decide +kernel
theorem dX3_killShoePressure_77 : decode cX3_killShoePressure 77 = .ok (.getfield 13, 3) := by decide +kernel
theorem dX3_killShoePressure_80 : decode cX3_killShoePressure 80 = .ok (.iconst 0, 1) := by decide +kernel
theorem dX3_killShoePressure_81 : decode cX3_killShoePressure 81 = .ok (.invokestatic 29, 3) := by decide +kernel
theorem dX3_killShoePressure_84 : decode cX3_killShoePressure 84 = .ok (.iload_n 1, 1) := by decide +kernel
theorem dX3_killShoePressure_85 : decode cX3_killShoePressure 85 = .ok (.ifCond .ne 23, 3) := by decide +kernel
theorem dX3_killShoePressure_88 : decode cX3_killShoePressure 88 = .ok (.aload_n 0, 1) := by decide +kernel
theorem dX3_killShoePressure_89 : decode cX3_killShoePressure 89 = .ok (.aload_n 0, 1) := by decide +kernel
theorem dX3_killShoePressure_90 : decode cX3_killShoePressure 90 = .ok (.iconst 1, 1) := by decide +kernel
theorem dX3_killShoePressure_91 : decode cX3_killShoePressure 91 = .ok (.invokevirtual 37, 3) := by decide +kernel
theorem dX3_killShoePressure_94 : decode cX3_killShoePressure 94 = .ok (.iload_n 2, 1) := by decide +kernel
theorem dX3_killShoePressure_95 : decode cX3_killShoePressure 95 = .ok (.aload_n 0, 1) := by decide +kernel
theorem dX3_killShoePressure_96 : decode cX3_killShoePressure 96 = .ok (.getfield 7, 3) := by decide +kernel
theorem dX3_killShoePressure_99 : decode cX3_killShoePressure 99 = .ok (.iconst 4, 1) := by decide +kernel
theorem dX3_killShoePressure_100 : decode cX3_killShoePressure 100 = .ok (.iaload, 1) := by decide +kernel
theorem dX3_killShoePressure_101 : decode cX3_killShoePressure 101 = .ok (.iconst 0, 1) := by decide +kernel
theorem dX3_killShoePressure_102 : decode cX3_killShoePressure 102 = .ok (.invokevirtual 100, 3) := by decide +kernel
theorem dX3_killShoePressure_105 : decode cX3_killShoePressure 105 = .ok (.goto 4, 3) := by decide +kernel
theorem dX3_killShoePressure_108 : decode cX3_killShoePressure 108 = .ok (.iconst 0, 1) := by decide +kernel
theorem dX3_killShoePressure_109 : decode cX3_killShoePressure 109 = .ok (.istore 4, 2) := by decide +kernel
theorem dX3_killShoePressure_111 : decode cX3_killShoePressure 111 = .ok (.aload_n 0, 1) := by decide +kernel
theorem dX3_killShoePressure_112 : decode cX3_killShoePressure 112 = .ok (.aload_n 0, 1) := by decide +kernel
theorem dX3_killShoePressure_113 : decode cX3_killShoePressure 113 = .ok (.iconst 0, 1) := by decide +kernel
theorem dX3_killShoePressure_114 : decode cX3_killShoePressure 114 = .ok (.invokevirtual 37, 3) := by decide +kernel
theorem dX3_killShoePressure_117 : decode cX3_killShoePressure 117 = .ok (.aload_n 0, 1) := by decide +kernel
theorem dX3_killShoePressure_118 : decode cX3_killShoePressure 118 = .ok (.iconst 1, 1) := by decide +kernel
theorem dX3_killShoePressure_119 : decode cX3_killShoePressure 119 = .ok (.invokevirtual 37, 3) := by decide +kernel
theorem dX3_killShoePressure_122 : decode cX3_killShoePressure 122 = .ok (.iadd, 1) := by decide +kernel
theorem dX3_killShoePressure_123 : decode cX3_killShoePressure 123 = .ok (.iload_n 2, 1) := by decide +kernel
theorem dX3_killShoePressure_124 : decode cX3_killShoePressure 124 = .ok (.iload_n 3, 1) := by decide +kernel
theorem dX3_killShoePressure_125 : decode cX3_killShoePressure 125 = .ok (.iload 4, 2) := by decide +kernel
theorem dX3_killShoePressure_127 : decode cX3_killShoePressure 127 = .ok (.invokevirtual 100, 3) := by decide +kernel
theorem dX3_killShoePressure_130 : decode cX3_killShoePressure 130 = .ok (.istore 4, 2) := by decide +kernel
theorem dX3_killShoePressure_132 : decode cX3_killShoePressure 132 = .ok (.aload_n 0, 1) := by decide +kernel
theorem dX3_killShoePressure_133 : decode cX3_killShoePressure 133 = .ok (.getfield 13, 3) := by decide +kernel
theorem dX3_killShoePressure_136 : decode cX3_killShoePressure 136 = .ok (.iconst 0, 1) := by decide +kernel
theorem dX3_killShoePressure_137 : decode cX3_killShoePressure 137 = .ok (.aload_n 0, 1) := by decide +kernel
theorem dX3_killShoePressure_138 : decode cX3_killShoePressure 138 = .ok (.getfield 7, 3) := by decide +kernel
theorem dX3_killShoePressure_141 : decode cX3_killShoePressure 141 = .ok (.iconst 0, 1) := by decide +kernel
theorem dX3_killShoePressure_142 : decode cX3_killShoePressure 142 = .ok (.invokestatic 29, 3) := by decide +kernel
theorem dX3_killShoePressure_145 : decode cX3_killShoePressure 145 = .ok (.iload 4, 2) := by decide +kernel
theorem dX3_killShoePressure_147 : decode cX3_killShoePressure 147 = .ok (.ireturn, 1) := by decide +kernel
theorem dX3_schedule_0 : decode cX3_schedule 0 = .ok (.iload_n 1, 1) := by decide +kernel
theorem dX3_schedule_1 : decode cX3_schedule 1 = .ok (.iconst 0, 1) := by decide +kernel
theorem dX3_schedule_2 : decode cX3_schedule 2 = .ok (.bipush 100, 2) := by decide +kernel
theorem dX3_schedule_4 : decode cX3_schedule 4 = .ok (.invokestatic 72, 3) := by decide +kernel
theorem dX3_schedule_7 : decode cX3_schedule 7 = .ok (.ifCond .ne 10, 3) := by decide +kernel
theorem dX3_schedule_10 : decode cX3_schedule 10 = .ok (.aload_n 0, 1) := by decide +kernel
theorem dX3_schedule_11 : decode cX3_schedule 11 = .ok (.bipush (-2), 2) := by decide +kernel
theorem dX3_schedule_13 : decode cX3_schedule 13 = .ok (.invokevirtual 76, 3) := by decide +kernel
theorem dX3_schedule_16 : decode cX3_schedule 16 = .ok (.ireturn, 1) := by decide +kernel
theorem dX3_schedule_17 : decode cX3_schedule 17 = .ok (.aload_n 0, 1) := by decide +kernel
theorem dX3_schedule_18 : decode cX3_schedule 18 = .ok (.invokevirtual 97, 3) := by decide +kernel
theorem dX3_schedule_21 : decode cX3_schedule 21 = .ok (.istore_n 2, 1) := by decide +kernel
theorem dX3_schedule_22 : decode cX3_schedule 22 = .ok (.iload_n 2, 1) := by decide +kernel
theorem dX3_schedule_23 : decode cX3_schedule 23 = .ok (.bipush (-4), 2) := by decide +kernel
theorem dX3_schedule_25 : decode cX3_schedule 25 = .ok (.if_icmp .ne 10, 3) := by decide +kernel
theorem dX3_schedule_28 : decode cX3_schedule 28 = .ok (.aload_n 0, 1) := by decide +kernel
theorem dX3_schedule_29 : decode cX3_schedule 29 = .ok (.bipush (-4), 2) := by decide +kernel
theorem dX3_schedule_31 : decode cX3_schedule 31 = .ok (.invokevirtual 76, 3) := by decide +kernel
theorem dX3_schedule_34 : decode cX3_schedule 34 = .ok (.ireturn, 1) := by decide +kernel
theorem dX3_schedule_35 : decode cX3_schedule 35 = .ok (.aload_n 0, 1) := by decide +kernel
theorem dX3_schedule_36 : decode cX3_schedule 36 = .ok (.getfield 7, 3) := by decide +kernel
theorem dX3_schedule_39 : decode cX3_schedule 39 = .ok (.bipush 6, 2) := by decide +kernel
theorem dX3_schedule_41 : decode cX3_schedule 41 = .ok (.iaload, 1) := by decide +kernel
theorem dX3_schedule_42 : decode cX3_schedule 42 = .ok (.aload_n 0, 1) := by decide +kernel
theorem dX3_schedule_43 : decode cX3_schedule 43 = .ok (.iconst 0, 1) := by decide +kernel
theorem dX3_schedule_44 : decode cX3_schedule 44 = .ok (.invokevirtual 65, 3) := by decide +kernel
theorem dX3_schedule_47 : decode cX3_schedule 47 = .ok (.iadd, 1) := by decide +kernel
theorem dX3_schedule_48 : decode cX3_schedule 48 = .ok (.i2l, 1) := by decide +kernel
theorem dX3_schedule_49 : decode cX3_schedule 49 = .ok (.lstore_n 3, 1) := by decide +kernel
theorem dX3_schedule_50 : decode cX3_schedule 50 = .ok (.aload_n 0, 1) := by decide +kernel
theorem dX3_schedule_51 : decode cX3_schedule 51 = .ok (.getfield 7, 3) := by decide +kernel
theorem dX3_schedule_54 : decode cX3_schedule 54 = .ok (.bipush 6, 2) := by decide +kernel
theorem dX3_schedule_56 : decode cX3_schedule 56 = .ok (.iaload, 1) := by decide +kernel
theorem dX3_schedule_57 : decode cX3_schedule 57 = .ok (.i2l, 1) := by decide +kernel
theorem dX3_schedule_58 : decode cX3_schedule 58 = .ok (.iload_n 2, 1) := by decide +kernel
theorem dX3_schedule_59 : decode cX3_schedule 59 = .ok (.i2l, 1) := by decide +kernel
theorem dX3_schedule_60 : decode cX3_schedule 60 = .ok (.lmul, 1) := by decide +kernel
theorem dX3_schedule_61 : decode cX3_schedule 61 = .ok (.aload_n 0, 1) := by decide +kernel
theorem dX3_schedule_62 : decode cX3_schedule 62 = .ok (.getfield 7, 3) := by decide +kernel
theorem dX3_schedule_65 : decode cX3_schedule 65 = .ok (.iconst 4, 1) := by decide +kernel
theorem dX3_schedule_66 : decode cX3_schedule 66 = .ok (.iaload, 1) := by decide +kernel
theorem dX3_schedule_67 : decode cX3_schedule 67 = .ok (.i2l, 1) := by decide +kernel
theorem dX3_schedule_68 : decode cX3_schedule 68 = .ok (.ldiv, 1) := by decide +kernel
theorem dX3_schedule_69 : decode cX3_schedule 69 = .ok (.lstore 5, 2) := by decide +kernel
theorem dX3_schedule_71 : decode cX3_schedule 71 = .ok (.lload_n 3, 1) := by decide +kernel
theorem dX3_schedule_72 : decode cX3_schedule 72 = .ok (.lload 5, 2) := by decide +kernel
theorem dX3_schedule_74 : decode cX3_schedule 74 = .ok (.lload_n 3, 1) := by decide +kernel
theorem dX3_schedule_75 : decode cX3_schedule 75 = .ok (.lsub, 1) := by decide +kernel
theorem dX3_schedule_76 : decode cX3_schedule 76 = .ok (.iload_n 1, 1) := by decide +kernel
theorem dX3_schedule_77 : decode cX3_schedule 77 = .ok (.i2l, 1) := by decide +kernel
theorem dX3_schedule_78 : decode cX3_schedule 78 = .ok (.lmul, 1) := by decide +kernel
theorem dX3_schedule_79 : decode cX3_schedule 79 = .ok (.ldc2_w 103, 3) := by decide +kernel
theorem dX3_schedule_82 : decode cX3_schedule 82 = .ok (.ldiv, 1) := by decide +kernel
theorem dX3_schedule_83 : decode cX3_schedule 83 = .ok (.ladd, 1) := by decide +kernel
theorem dX3_schedule_84 : decode cX3_schedule 84 = .ok (.l2i, 1) := by decide +kernel
theorem dX3_schedule_85 : decode cX3_schedule 85 = .ok (.ireturn, 1) := by decide +kernel
theorem dX3_strokesToBit_0 : decode cX3_strokesToBit 0 = .ok (.iload_n 1, 1) := by decide +kernel
theorem dX3_strokesToBit_1 : decode cX3_strokesToBit 1 = .ok (.iconst 1, 1) := by decide +kernel
theorem dX3_strokesToBit_2 : decode cX3_strokesToBit 2 = .ok (.bipush 100, 2) := by decide +kernel
theorem dX3_strokesToBit_4 : decode cX3_strokesToBit 4 = .ok (.invokestatic 72, 3) := by decide +kernel
theorem dX3_strokesToBit_7 : decode cX3_strokesToBit 7 = .ok (.ifCond .eq 17, 3) := by decide +kernel
theorem dX3_strokesToBit_10 : decode cX3_strokesToBit 10 = .ok (.aload_n 0, 1) := by decide +kernel
theorem dX3_strokesToBit_11 : decode cX3_strokesToBit 11 = .ok (.iconst 0, 1) := by decide +kernel
theorem dX3_strokesToBit_12 : decode cX3_strokesToBit 12 = .ok (.invokevirtual 37, 3) := by decide +kernel
theorem dX3_strokesToBit_15 : decode cX3_strokesToBit 15 = .ok (.iload_n 1, 1) := by decide +kernel
theorem dX3_strokesToBit_16 : decode cX3_strokesToBit 16 = .ok (.iadd, 1) := by decide +kernel
theorem dX3_strokesToBit_17 : decode cX3_strokesToBit 17 = .ok (.iconst 1, 1) := by decide +kernel
theorem dX3_strokesToBit_18 : decode cX3_strokesToBit 18 = .ok (.isub, 1) := by decide +kernel
theorem dX3_strokesToBit_19 : decode cX3_strokesToBit 19 = .ok (.iload_n 1, 1) := by decide +kernel
theorem dX3_strokesToBit_20 : decode cX3_strokesToBit 20 = .ok (.idiv, 1) := by decide +kernel
theorem dX3_strokesToBit_21 : decode cX3_strokesToBit 21 = .ok (.goto 9, 3) := by decide +kernel
theorem dX3_strokesToBit_24 : decode cX3_strokesToBit 24 = .ok (.aload_n 0, 1) := by decide +kernel
theorem dX3_strokesToBit_25 : decode cX3_strokesToBit 25 = .ok (.bipush (-2), 2) := by decide +kernel
theorem dX3_strokesToBit_27 : decode cX3_strokesToBit 27 = .ok (.invokevirtual 76, 3) := by decide +kernel
theorem dX3_strokesToBit_30 : decode cX3_strokesToBit 30 = .ok (.ireturn, 1) := by decide +kernel
theorem dX3_layers_0 : decode cX3_layers 0 = .ok (.iload_n 1, 1) := by decide +kernel
theorem dX3_layers_1 : decode cX3_layers 1 = .ok (.invokestatic 93, 3) := by decide +kernel
theorem dX3_layers_4 : decode cX3_layers 4 = .ok (.ifCond .eq 15, 3) := by decide +kernel
theorem dX3_layers_7 : decode cX3_layers 7 = .ok (.aload_n 0, 1) := by decide +kernel
theorem dX3_layers_8 : decode cX3_layers 8 = .ok (.getfield 7, 3) := by decide +kernel
theorem dX3_layers_11 : decode cX3_layers 11 = .ok (.bipush 11, 2) := by decide +kernel
theorem dX3_layers_13 : decode cX3_layers 13 = .ok (.iload_n 1, 1) := by decide +kernel
theorem dX3_layers_14 : decode cX3_layers 14 = .ok (.iadd, 1) := by decide +kernel
theorem dX3_layers_15 : decode cX3_layers 15 = .ok (.iaload, 1) := by decide +kernel
theorem dX3_layers_16 : decode cX3_layers 16 = .ok (.goto 9, 3) := by decide +kernel
theorem dX3_layers_19 : decode cX3_layers 19 = .ok (.aload_n 0, 1) := by decide +kernel
theorem dX3_layers_20 : decode cX3_layers 20 = .ok (.bipush (-2), 2) := by decide +kernel
theorem dX3_layers_22 : decode cX3_layers 22 = .ok (.invokevirtual 76, 3) := by decide +kernel
theorem dX3_layers_25 : decode cX3_layers 25 = .ok (.ireturn, 1) := by decide +kernel
theorem dX3_ofLayer_0 : decode cX3_ofLayer 0 = .ok (.iload_n 1, 1) := by decide +kernel
theorem dX3_ofLayer_1 : decode cX3_ofLayer 1 = .ok (.invokestatic 93, 3) := by decide +kernel
theorem dX3_ofLayer_4 : decode cX3_ofLayer 4 = .ok (.ifCond .eq 7, 3) := by decide +kernel
theorem dX3_ofLayer_7 : decode cX3_ofLayer 7 = .ok (.iload_n 2, 1) := by decide +kernel
theorem dX3_ofLayer_8 : decode cX3_ofLayer 8 = .ok (.ifCond .ge 10, 3) := by decide +kernel
theorem dX3_ofLayer_11 : decode cX3_ofLayer 11 = .ok (.aload_n 0, 1) := by decide +kernel
theorem dX3_ofLayer_12 : decode cX3_ofLayer 12 = .ok (.bipush (-2), 2) := by decide +kernel
theorem dX3_ofLayer_14 : decode cX3_ofLayer 14 = .ok (.invokevirtual 76, 3) := by decide +kernel
theorem dX3_ofLayer_17 : decode cX3_ofLayer 17 = .ok (.ireturn, 1) := by decide +kernel
theorem dX3_ofLayer_18 : decode cX3_ofLayer 18 = .ok (.iload_n 2, 1) := by decide +kernel
theorem dX3_ofLayer_19 : decode cX3_ofLayer 19 = .ok (.aload_n 0, 1) := by decide +kernel
theorem dX3_ofLayer_20 : decode cX3_ofLayer 20 = .ok (.getfield 7, 3) := by decide +kernel
theorem dX3_ofLayer_23 : decode cX3_ofLayer 23 = .ok (.bipush 11, 2) := by decide +kernel
theorem dX3_ofLayer_25 : decode cX3_ofLayer 25 = .ok (.iload_n 1, 1) := by decide +kernel
theorem dX3_ofLayer_26 : decode cX3_ofLayer 26 = .ok (.iadd, 1) := by decide +kernel
theorem dX3_ofLayer_27 : decode cX3_ofLayer 27 = .ok (.iaload, 1) := by decide +kernel
theorem dX3_ofLayer_28 : decode cX3_ofLayer 28 = .ok (.if_icmp .ge 18, 3) := by decide +kernel
theorem dX3_ofLayer_31 : decode cX3_ofLayer 31 = .ok (.aload_n 0, 1) := by decide +kernel
theorem dX3_ofLayer_32 : decode cX3_ofLayer 32 = .ok (.getfield 7, 3) := by decide +kernel
theorem dX3_ofLayer_35 : decode cX3_ofLayer 35 = .ok (.iload_n 1, 1) := by decide +kernel
theorem dX3_ofLayer_36 : decode cX3_ofLayer 36 = .ok (.iload_n 2, 1) := by decide +kernel
theorem dX3_ofLayer_37 : decode cX3_ofLayer 37 = .ok (.invokestatic 33, 3) := by decide +kernel
theorem dX3_ofLayer_40 : decode cX3_ofLayer 40 = .ok (.iload_n 3, 1) := by decide +kernel
theorem dX3_ofLayer_41 : decode cX3_ofLayer 41 = .ok (.iadd, 1) := by decide +kernel
theorem dX3_ofLayer_42 : decode cX3_ofLayer 42 = .ok (.iaload, 1) := by decide +kernel
theorem dX3_ofLayer_43 : decode cX3_ofLayer 43 = .ok (.goto 9, 3) := by decide +kernel
theorem dX3_ofLayer_46 : decode cX3_ofLayer 46 = .ok (.aload_n 0, 1) := by decide +kernel
theorem dX3_ofLayer_47 : decode cX3_ofLayer 47 = .ok (.bipush (-4), 2) := by decide +kernel
theorem dX3_ofLayer_49 : decode cX3_ofLayer 49 = .ok (.invokevirtual 76, 3) := by decide +kernel
theorem dX3_ofLayer_52 : decode cX3_ofLayer 52 = .ok (.ireturn, 1) := by decide +kernel
theorem dX3_layerVolume_0 : decode cX3_layerVolume 0 = .ok (.aload_n 0, 1) := by decide +kernel
theorem dX3_layerVolume_1 : decode cX3_layerVolume 1 = .ok (.iload_n 1, 1) := by decide +kernel
theorem dX3_layerVolume_2 : decode cX3_layerVolume 2 = .ok (.iload_n 2, 1) := by decide +kernel
theorem dX3_layerVolume_3 : decode cX3_layerVolume 3 = .ok (.iconst 0, 1) := by decide +kernel
theorem dX3_layerVolume_4 : decode cX3_layerVolume 4 = .ok (.invokevirtual 105, 3) := by decide +kernel
theorem dX3_layerVolume_7 : decode cX3_layerVolume 7 = .ok (.ireturn, 1) := by decide +kernel
theorem dX3_layerDensity_0 : decode cX3_layerDensity 0 = .ok (.aload_n 0, 1) := by decide +kernel
theorem dX3_layerDensity_1 : decode cX3_layerDensity 1 = .ok (.iload_n 1, 1) := by decide +kernel
theorem dX3_layerDensity_2 : decode cX3_layerDensity 2 = .ok (.iload_n 2, 1) := by decide +kernel
theorem dX3_layerDensity_3 : decode cX3_layerDensity 3 = .ok (.sipush 1100, 3) := by decide +kernel
theorem dX3_layerDensity_6 : decode cX3_layerDensity 6 = .ok (.invokevirtual 105, 3) := by decide +kernel
theorem dX3_layerDensity_9 : decode cX3_layerDensity 9 = .ok (.ireturn, 1) := by decide +kernel
theorem dX3_gain_0 : decode cX3_gain 0 = .ok (.aload_n 0, 1) := by decide +kernel
theorem dX3_gain_1 : decode cX3_gain 1 = .ok (.getfield 7, 3) := by decide +kernel
theorem dX3_gain_4 : decode cX3_gain 4 = .ok (.bipush 8, 2) := by decide +kernel
theorem dX3_gain_6 : decode cX3_gain 6 = .ok (.iaload, 1) := by decide +kernel
theorem dX3_gain_7 : decode cX3_gain 7 = .ok (.ireturn, 1) := by decide +kernel
theorem dX3_breaks_0 : decode cX3_breaks 0 = .ok (.aload_n 0, 1) := by decide +kernel
theorem dX3_breaks_1 : decode cX3_breaks 1 = .ok (.getfield 7, 3) := by decide +kernel
theorem dX3_breaks_4 : decode cX3_breaks 4 = .ok (.bipush 9, 2) := by decide +kernel
theorem dX3_breaks_6 : decode cX3_breaks 6 = .ok (.iaload, 1) := by decide +kernel
theorem dX3_breaks_7 : decode cX3_breaks 7 = .ok (.ireturn, 1) := by decide +kernel
theorem dX3_greatestShoePressure_0 : decode cX3_greatestShoePressure 0 = .ok (.aload_n 0, 1) := by decide +kernel
theorem dX3_greatestShoePressure_1 : decode cX3_greatestShoePressure 1 = .ok (.getfield 7, 3) := by decide +kernel
theorem dX3_greatestShoePressure_4 : decode cX3_greatestShoePressure 4 = .ok (.bipush 10, 2) := by decide +kernel
theorem dX3_greatestShoePressure_6 : decode cX3_greatestShoePressure 6 = .ok (.iaload, 1) := by decide +kernel
theorem dX3_greatestShoePressure_7 : decode cX3_greatestShoePressure 7 = .ok (.ireturn, 1) := by decide +kernel
theorem dX3_undo_0 : decode cX3_undo 0 = .ok (.aload_n 0, 1) := by decide +kernel
theorem dX3_undo_1 : decode cX3_undo 1 = .ok (.getfield 25, 3) := by decide +kernel
theorem dX3_undo_4 : decode cX3_undo 4 = .ok (.ifCond .ne 10, 3) := by decide +kernel
theorem dX3_undo_7 : decode cX3_undo 7 = .ok (.aload_n 0, 1) := by decide +kernel
theorem dX3_undo_8 : decode cX3_undo 8 = .ok (.bipush (-5), 2) := by decide +kernel
theorem dX3_undo_10 : decode cX3_undo 10 = .ok (.invokevirtual 76, 3) := by decide +kernel
theorem dX3_undo_13 : decode cX3_undo 13 = .ok (.ireturn, 1) := by decide +kernel
theorem dX3_undo_14 : decode cX3_undo 14 = .ok (.aload_n 0, 1) := by decide +kernel
theorem dX3_undo_15 : decode cX3_undo 15 = .ok (.dup, 1) := by decide +kernel
theorem dX3_undo_16 : decode cX3_undo 16 = .ok (.getfield 25, 3) := by decide +kernel
theorem dX3_undo_19 : decode cX3_undo 19 = .ok (.iconst 1, 1) := by decide +kernel
theorem dX3_undo_20 : decode cX3_undo 20 = .ok (.isub, 1) := by decide +kernel
theorem dX3_undo_21 : decode cX3_undo 21 = .ok (.putfield 25, 3) := by decide +kernel
theorem dX3_undo_24 : decode cX3_undo 24 = .ok (.aload_n 0, 1) := by decide +kernel
theorem dX3_undo_25 : decode cX3_undo 25 = .ok (.getfield 16, 3) := by decide +kernel
theorem dX3_undo_28 : decode cX3_undo 28 = .ok (.sipush 4416, 3) := by decide +kernel
theorem dX3_undo_31 : decode cX3_undo 31 = .ok (.aload_n 0, 1) := by decide +kernel
theorem dX3_undo_32 : decode cX3_undo 32 = .ok (.getfield 25, 3) := by decide +kernel
theorem dX3_undo_35 : decode cX3_undo 35 = .ok (.imul, 1) := by decide +kernel
theorem dX3_undo_36 : decode cX3_undo 36 = .ok (.aload_n 0, 1) := by decide +kernel
theorem dX3_undo_37 : decode cX3_undo 37 = .ok (.getfield 7, 3) := by decide +kernel
theorem dX3_undo_40 : decode cX3_undo 40 = .ok (.iconst 0, 1) := by decide +kernel
theorem dX3_undo_41 : decode cX3_undo 41 = .ok (.invokestatic 29, 3) := by decide +kernel
theorem dX3_undo_44 : decode cX3_undo 44 = .ok (.aload_n 0, 1) := by decide +kernel
theorem dX3_undo_45 : decode cX3_undo 45 = .ok (.getfield 25, 3) := by decide +kernel
theorem dX3_undo_48 : decode cX3_undo 48 = .ok (.ireturn, 1) := by decide +kernel
theorem dX3_errorCount_0 : decode cX3_errorCount 0 = .ok (.iload_n 1, 1) := by decide +kernel
theorem dX3_errorCount_1 : decode cX3_errorCount 1 = .ok (.bipush (-5), 2) := by decide +kernel
theorem dX3_errorCount_3 : decode cX3_errorCount 3 = .ok (.bipush (-2), 2) := by decide +kernel
theorem dX3_errorCount_5 : decode cX3_errorCount 5 = .ok (.invokestatic 72, 3) := by decide +kernel
theorem dX3_errorCount_8 : decode cX3_errorCount 8 = .ok (.ifCond .eq 15, 3) := by decide +kernel
theorem dX3_errorCount_11 : decode cX3_errorCount 11 = .ok (.aload_n 0, 1) := by decide +kernel
theorem dX3_errorCount_12 : decode cX3_errorCount 12 = .ok (.getfield 19, 3) := by decide +kernel
theorem dX3_errorCount_15 : decode cX3_errorCount 15 = .ok (.bipush (-2), 2) := by decide +kernel
theorem dX3_errorCount_17 : decode cX3_errorCount 17 = .ok (.iload_n 1, 1) := by decide +kernel
theorem dX3_errorCount_18 : decode cX3_errorCount 18 = .ok (.isub, 1) := by decide +kernel
theorem dX3_errorCount_19 : decode cX3_errorCount 19 = .ok (.iaload, 1) := by decide +kernel
theorem dX3_errorCount_20 : decode cX3_errorCount 20 = .ok (.goto 9, 3) := by decide +kernel
theorem dX3_errorCount_23 : decode cX3_errorCount 23 = .ok (.aload_n 0, 1) := by decide +kernel
theorem dX3_errorCount_24 : decode cX3_errorCount 24 = .ok (.bipush (-2), 2) := by decide +kernel
theorem dX3_errorCount_26 : decode cX3_errorCount 26 = .ok (.invokevirtual 76, 3) := by decide +kernel
theorem dX3_errorCount_29 : decode cX3_errorCount 29 = .ok (.ireturn, 1) := by decide +kernel
theorem dX3_mix_0 : decode cX3_mix 0 = .ok (.aload_n 0, 1) := by decide +kernel
theorem dX3_mix_1 : decode cX3_mix 1 = .ok (.ldc2_w 109, 3) := by decide +kernel
theorem dX3_mix_4 : decode cX3_mix 4 = .ok (.aload_n 0, 1) := by decide +kernel
theorem dX3_mix_5 : decode cX3_mix 5 = .ok (.getfield 111, 3) := by decide +kernel
theorem dX3_mix_8 : decode cX3_mix 8 = .ok (.lmul, 1) := by decide +kernel
theorem dX3_mix_9 : decode cX3_mix 9 = .ok (.lload_n 1, 1) := by decide +kernel
theorem dX3_mix_10 : decode cX3_mix 10 = .ok (.ladd, 1) := by decide +kernel
theorem dX3_mix_11 : decode cX3_mix 11 = .ok (.putfield 111, 3) := by decide +kernel
theorem dX3_mix_14 : decode cX3_mix 14 = .ok (.return_, 1) := by decide +kernel
theorem dX3_digest_0 : decode cX3_digest 0 = .ok (.aload_n 0, 1) := by decide +kernel
theorem dX3_digest_1 : decode cX3_digest 1 = .ok (.ldc2_w 115, 3) := by decide +kernel
theorem dX3_digest_4 : decode cX3_digest 4 = .ok (.putfield 111, 3) := by decide +kernel
theorem dX3_digest_7 : decode cX3_digest 7 = .ok (.iconst 0, 1) := by decide +kernel
theorem dX3_digest_8 : decode cX3_digest 8 = .ok (.istore_n 1, 1) := by decide +kernel
theorem dX3_digest_9 : decode cX3_digest 9 = .ok (.iload_n 1, 1) := by decide +kernel
theorem dX3_digest_10 : decode cX3_digest 10 = .ok (.iconst 4, 1) := by decide +kernel
theorem dX3_digest_11 : decode cX3_digest 11 = .ok (.if_icmp .ge 20, 3) := by decide +kernel
theorem dX3_digest_14 : decode cX3_digest 14 = .ok (.aload_n 0, 1) := by decide +kernel
theorem dX3_digest_15 : decode cX3_digest 15 = .ok (.aload_n 0, 1) := by decide +kernel
theorem dX3_digest_16 : decode cX3_digest 16 = .ok (.getfield 19, 3) := by decide +kernel
theorem dX3_digest_19 : decode cX3_digest 19 = .ok (.iload_n 1, 1) := by decide +kernel
theorem dX3_digest_20 : decode cX3_digest 20 = .ok (.iaload, 1) := by decide +kernel
theorem dX3_digest_21 : decode cX3_digest 21 = .ok (.i2l, 1) := by decide +kernel
theorem dX3_digest_22 : decode cX3_digest 22 = .ok (.invokevirtual 117, 3) := by decide +kernel
theorem dX3_digest_25 : decode cX3_digest 25 = .ok (.iinc 1 1, 3) := by decide +kernel
theorem dX3_digest_28 : decode cX3_digest 28 = .ok (.goto (-19), 3) := by decide +kernel
theorem dX3_digest_31 : decode cX3_digest 31 = .ok (.iconst 0, 1) := by decide +kernel
theorem dX3_digest_32 : decode cX3_digest 32 = .ok (.istore_n 1, 1) := by decide +kernel
theorem dX3_digest_33 : decode cX3_digest 33 = .ok (.iload_n 1, 1) := by decide +kernel
theorem dX3_digest_34 : decode cX3_digest 34 = .ok (.bipush 7, 2) := by decide +kernel
theorem dX3_digest_36 : decode cX3_digest 36 = .ok (.if_icmp .gt 20, 3) := by decide +kernel
theorem dX3_digest_39 : decode cX3_digest 39 = .ok (.aload_n 0, 1) := by decide +kernel
theorem dX3_digest_40 : decode cX3_digest 40 = .ok (.aload_n 0, 1) := by decide +kernel
theorem dX3_digest_41 : decode cX3_digest 41 = .ok (.getfield 7, 3) := by decide +kernel
theorem dX3_digest_44 : decode cX3_digest 44 = .ok (.iload_n 1, 1) := by decide +kernel
theorem dX3_digest_45 : decode cX3_digest 45 = .ok (.iaload, 1) := by decide +kernel
theorem dX3_digest_46 : decode cX3_digest 46 = .ok (.i2l, 1) := by decide +kernel
theorem dX3_digest_47 : decode cX3_digest 47 = .ok (.invokevirtual 117, 3) := by decide +kernel
theorem dX3_digest_50 : decode cX3_digest 50 = .ok (.iinc 1 1, 3) := by decide +kernel
theorem dX3_digest_53 : decode cX3_digest 53 = .ok (.goto (-20), 3) := by decide +kernel
theorem dX3_digest_56 : decode cX3_digest 56 = .ok (.iconst 0, 1) := by decide +kernel
theorem dX3_digest_57 : decode cX3_digest 57 = .ok (.istore_n 1, 1) := by decide +kernel
theorem dX3_digest_58 : decode cX3_digest 58 = .ok (.iload_n 1, 1) := by decide +kernel
theorem dX3_digest_59 : decode cX3_digest 59 = .ok (.iconst 2, 1) := by decide +kernel
theorem dX3_digest_60 : decode cX3_digest 60 = .ok (.if_icmp .ge 74, 3) := by decide +kernel
theorem dX3_digest_63 : decode cX3_digest 63 = .ok (.aload_n 0, 1) := by decide +kernel
theorem dX3_digest_64 : decode cX3_digest 64 = .ok (.aload_n 0, 1) := by decide +kernel
theorem dX3_digest_65 : decode cX3_digest 65 = .ok (.getfield 7, 3) := by decide +kernel
theorem dX3_digest_68 : decode cX3_digest 68 = .ok (.bipush 11, 2) := by decide +kernel
theorem dX3_digest_70 : decode cX3_digest 70 = .ok (.iload_n 1, 1) := by decide +kernel
theorem dX3_digest_71 : decode cX3_digest 71 = .ok (.iadd, 1) := by decide +kernel
theorem dX3_digest_72 : decode cX3_digest 72 = .ok (.iaload, 1) := by decide +kernel
theorem dX3_digest_73 : decode cX3_digest 73 = .ok (.i2l, 1) := by decide +kernel
theorem dX3_digest_74 : decode cX3_digest 74 = .ok (.invokevirtual 117, 3) := by decide +kernel
theorem dX3_digest_77 : decode cX3_digest 77 = .ok (.iconst 0, 1) := by decide +kernel
theorem dX3_digest_78 : decode cX3_digest 78 = .ok (.istore_n 2, 1) := by decide +kernel
theorem dX3_digest_79 : decode cX3_digest 79 = .ok (.iload_n 2, 1) := by decide +kernel
theorem dX3_digest_80 : decode cX3_digest 80 = .ok (.aload_n 0, 1) := by decide +kernel
theorem dX3_digest_81 : decode cX3_digest 81 = .ok (.getfield 7, 3) := by decide +kernel
theorem dX3_digest_84 : decode cX3_digest 84 = .ok (.bipush 11, 2) := by decide +kernel
theorem dX3_digest_86 : decode cX3_digest 86 = .ok (.iload_n 1, 1) := by decide +kernel
theorem dX3_digest_87 : decode cX3_digest 87 = .ok (.iadd, 1) := by decide +kernel
theorem dX3_digest_88 : decode cX3_digest 88 = .ok (.iaload, 1) := by decide +kernel
theorem dX3_digest_89 : decode cX3_digest 89 = .ok (.if_icmp .ge 39, 3) := by decide +kernel
theorem dX3_digest_92 : decode cX3_digest 92 = .ok (.aload_n 0, 1) := by decide +kernel
theorem dX3_digest_93 : decode cX3_digest 93 = .ok (.aload_n 0, 1) := by decide +kernel
theorem dX3_digest_94 : decode cX3_digest 94 = .ok (.getfield 7, 3) := by decide +kernel
theorem dX3_digest_97 : decode cX3_digest 97 = .ok (.iload_n 1, 1) := by decide +kernel
theorem dX3_digest_98 : decode cX3_digest 98 = .ok (.iload_n 2, 1) := by decide +kernel
theorem dX3_digest_99 : decode cX3_digest 99 = .ok (.invokestatic 33, 3) := by decide +kernel
theorem dX3_digest_102 : decode cX3_digest 102 = .ok (.iaload, 1) := by decide +kernel
theorem dX3_digest_103 : decode cX3_digest 103 = .ok (.i2l, 1) := by decide +kernel
theorem dX3_digest_104 : decode cX3_digest 104 = .ok (.invokevirtual 117, 3) := by decide +kernel
theorem dX3_digest_107 : decode cX3_digest 107 = .ok (.aload_n 0, 1) := by decide +kernel
theorem dX3_digest_108 : decode cX3_digest 108 = .ok (.aload_n 0, 1) := by decide +kernel
theorem dX3_digest_109 : decode cX3_digest 109 = .ok (.getfield 7, 3) := by decide +kernel
theorem dX3_digest_112 : decode cX3_digest 112 = .ok (.iload_n 1, 1) := by decide +kernel
theorem dX3_digest_113 : decode cX3_digest 113 = .ok (.iload_n 2, 1) := by decide +kernel
theorem dX3_digest_114 : decode cX3_digest 114 = .ok (.invokestatic 41, 3) := by decide +kernel
theorem dX3_digest_117 : decode cX3_digest 117 = .ok (.iaload, 1) := by decide +kernel
theorem dX3_digest_118 : decode cX3_digest 118 = .ok (.i2l, 1) := by decide +kernel
theorem dX3_digest_119 : decode cX3_digest 119 = .ok (.invokevirtual 117, 3) := by decide +kernel
theorem dX3_digest_122 : decode cX3_digest 122 = .ok (.iinc 2 1, 3) := by decide +kernel
theorem dX3_digest_125 : decode cX3_digest 125 = .ok (.goto (-46), 3) := by decide +kernel
theorem dX3_digest_128 : decode cX3_digest 128 = .ok (.iinc 1 1, 3) := by decide +kernel
theorem dX3_digest_131 : decode cX3_digest 131 = .ok (.goto (-73), 3) := by decide +kernel
theorem dX3_digest_134 : decode cX3_digest 134 = .ok (.aload_n 0, 1) := by decide +kernel
theorem dX3_digest_135 : decode cX3_digest 135 = .ok (.aload_n 0, 1) := by decide +kernel
theorem dX3_digest_136 : decode cX3_digest 136 = .ok (.iconst 0, 1) := by decide +kernel
theorem dX3_digest_137 : decode cX3_digest 137 = .ok (.invokevirtual 65, 3) := by decide +kernel
theorem dX3_digest_140 : decode cX3_digest 140 = .ok (.i2l, 1) := by decide +kernel
theorem dX3_digest_141 : decode cX3_digest 141 = .ok (.invokevirtual 117, 3) := by decide +kernel
theorem dX3_digest_144 : decode cX3_digest 144 = .ok (.aload_n 0, 1) := by decide +kernel
theorem dX3_digest_145 : decode cX3_digest 145 = .ok (.aload_n 0, 1) := by decide +kernel
theorem dX3_digest_146 : decode cX3_digest 146 = .ok (.iconst 1, 1) := by decide +kernel
theorem dX3_digest_147 : decode cX3_digest 147 = .ok (.invokevirtual 65, 3) := by decide +kernel
theorem dX3_digest_150 : decode cX3_digest 150 = .ok (.i2l, 1) := by decide +kernel
theorem dX3_digest_151 : decode cX3_digest 151 = .ok (.invokevirtual 117, 3) := by decide +kernel
theorem dX3_digest_154 : decode cX3_digest 154 = .ok (.aload_n 0, 1) := by decide +kernel
theorem dX3_digest_155 : decode cX3_digest 155 = .ok (.aload_n 0, 1) := by decide +kernel
theorem dX3_digest_156 : decode cX3_digest 156 = .ok (.getfield 7, 3) := by decide +kernel
theorem dX3_digest_159 : decode cX3_digest 159 = .ok (.bipush 6, 2) := by decide +kernel
theorem dX3_digest_161 : decode cX3_digest 161 = .ok (.iaload, 1) := by decide +kernel
theorem dX3_digest_162 : decode cX3_digest 162 = .ok (.aload_n 0, 1) := by decide +kernel
theorem dX3_digest_163 : decode cX3_digest 163 = .ok (.iconst 0, 1) := by decide +kernel
theorem dX3_digest_164 : decode cX3_digest 164 = .ok (.invokevirtual 65, 3) := by decide +kernel
theorem dX3_digest_167 : decode cX3_digest 167 = .ok (.iadd, 1) := by decide +kernel
theorem dX3_digest_168 : decode cX3_digest 168 = .ok (.i2l, 1) := by decide +kernel
theorem dX3_digest_169 : decode cX3_digest 169 = .ok (.invokevirtual 117, 3) := by decide +kernel
theorem dX3_digest_172 : decode cX3_digest 172 = .ok (.aload_n 0, 1) := by decide +kernel
theorem dX3_digest_173 : decode cX3_digest 173 = .ok (.aload_n 0, 1) := by decide +kernel
theorem dX3_digest_174 : decode cX3_digest 174 = .ok (.invokevirtual 68, 3) := by decide +kernel
theorem dX3_digest_177 : decode cX3_digest 177 = .ok (.i2l, 1) := by decide +kernel
theorem dX3_digest_178 : decode cX3_digest 178 = .ok (.invokevirtual 117, 3) := by decide +kernel
theorem dX3_digest_181 : decode cX3_digest 181 = .ok (.bipush 8, 2) := by decide +kernel
theorem dX3_digest_183 : decode cX3_digest 183 = .ok (.istore_n 1, 1) := by decide +kernel
theorem dX3_digest_184 : decode cX3_digest 184 = .ok (.iload_n 1, 1) := by decide +kernel
theorem dX3_digest_185 : decode cX3_digest 185 = .ok (.bipush 10, 2) := by decide +kernel
theorem dX3_digest_187 : decode cX3_digest 187 = .ok (.if_icmp .gt 20, 3) := by decide +kernel
theorem dX3_digest_190 : decode cX3_digest 190 = .ok (.aload_n 0, 1) := by decide +kernel
theorem dX3_digest_191 : decode cX3_digest 191 = .ok (.aload_n 0, 1) := by decide +kernel
theorem dX3_digest_192 : decode cX3_digest 192 = .ok (.getfield 7, 3) := by decide +kernel
theorem dX3_digest_195 : decode cX3_digest 195 = .ok (.iload_n 1, 1) := by decide +kernel
theorem dX3_digest_196 : decode cX3_digest 196 = .ok (.iaload, 1) := by decide +kernel
theorem dX3_digest_197 : decode cX3_digest 197 = .ok (.i2l, 1) := by decide +kernel
theorem dX3_digest_198 : decode cX3_digest 198 = .ok (.invokevirtual 117, 3) := by decide +kernel
theorem dX3_digest_201 : decode cX3_digest 201 = .ok (.iinc 1 1, 3) := by decide +kernel
theorem dX3_digest_204 : decode cX3_digest 204 = .ok (.goto (-20), 3) := by decide +kernel
theorem dX3_digest_207 : decode cX3_digest 207 = .ok (.aload_n 0, 1) := by decide +kernel
theorem dX3_digest_208 : decode cX3_digest 208 = .ok (.aload_n 0, 1) := by decide +kernel
theorem dX3_digest_209 : decode cX3_digest 209 = .ok (.getfield 25, 3) := by decide +kernel
theorem dX3_digest_212 : decode cX3_digest 212 = .ok (.i2l, 1) := by decide +kernel
theorem dX3_digest_213 : decode cX3_digest 213 = .ok (.invokevirtual 117, 3) := by decide +kernel
theorem dX3_digest_216 : decode cX3_digest 216 = .ok (.aload_n 0, 1) := by decide +kernel
theorem dX3_digest_217 : decode cX3_digest 217 = .ok (.getfield 111, 3) := by decide +kernel
theorem dX3_digest_220 : decode cX3_digest 220 = .ok (.lreturn, 1) := by decide +kernel
end
section
theorem dL_law_0 : decode cL_law 0 = .ok (.new 7, 3) := by decide +kernel
theorem dL_law_3 : decode cL_law 3 = .ok (.dup, 1) := by decide +kernel
theorem dL_law_4 : decode cL_law 4 = .ok (.invokespecial 9, 3) := by decide +kernel
theorem dL_law_7 : decode cL_law 7 = .ok (.astore_n 1, 1) := by decide +kernel
theorem dL_law_8 : decode cL_law 8 = .ok (.new 10, 3) := by decide +kernel
theorem dL_law_11 : decode cL_law 11 = .ok (.dup, 1) := by decide +kernel
theorem dL_law_12 : decode cL_law 12 = .ok (.invokespecial 12, 3) := by decide +kernel
theorem dL_law_15 : decode cL_law 15 = .ok (.astore_n 2, 1) := by decide +kernel
theorem dL_law_16 : decode cL_law 16 = .ok (.iconst 0, 1) := by decide +kernel
theorem dL_law_17 : decode cL_law 17 = .ok (.istore_n 3, 1) := by decide +kernel
theorem dL_law_18 : decode cL_law 18 = .ok (.iload_n 3, 1) := by decide +kernel
theorem dL_law_19 : decode cL_law 19 = .ok (.aload_n 0, 1) := by decide +kernel
theorem dL_law_20 : decode cL_law 20 = .ok (.arraylength, 1) := by decide +kernel
theorem dL_law_21 : decode cL_law 21 = .ok (.iconst 5, 1) := by decide +kernel
theorem dL_law_22 : decode cL_law 22 = .ok (.isub, 1) := by decide +kernel
theorem dL_law_23 : decode cL_law 23 = .ok (.if_icmp .gt 731, 3) := by decide +kernel
theorem dL_law_26 : decode cL_law 26 = .ok (.aload_n 0, 1) := by decide +kernel
theorem dL_law_27 : decode cL_law 27 = .ok (.iload_n 3, 1) := by decide +kernel
theorem dL_law_28 : decode cL_law 28 = .ok (.iaload, 1) := by decide +kernel
theorem dL_law_29 : decode cL_law 29 = .ok (.bipush 31, 2) := by decide +kernel
theorem dL_law_31 : decode cL_law 31 = .ok (.iand, 1) := by decide +kernel
theorem dL_law_32 : decode cL_law 32 = .ok (.tableswitch 716 0 26 #[124, 177, 200, 223, 246, 269, 292, 325, 348, 381, 394, 407, 420, 433, 446, 459, 492, 515, 538, 561, 594, 627, 640, 653, 666, 679, 702], 124) := by decide +kernel
theorem dL_law_156 : decode cL_law 156 = .ok (.aload_n 1, 1) := by decide +kernel
theorem dL_law_157 : decode cL_law 157 = .ok (.aload_n 0, 1) := by decide +kernel
theorem dL_law_158 : decode cL_law 158 = .ok (.iload_n 3, 1) := by decide +kernel
theorem dL_law_159 : decode cL_law 159 = .ok (.iconst 1, 1) := by decide +kernel
theorem dL_law_160 : decode cL_law 160 = .ok (.iadd, 1) := by decide +kernel
theorem dL_law_161 : decode cL_law 161 = .ok (.iaload, 1) := by decide +kernel
theorem dL_law_162 : decode cL_law 162 = .ok (.aload_n 0, 1) := by decide +kernel
theorem dL_law_163 : decode cL_law 163 = .ok (.iload_n 3, 1) := by decide +kernel
theorem dL_law_164 : decode cL_law 164 = .ok (.iconst 2, 1) := by decide +kernel
theorem dL_law_165 : decode cL_law 165 = .ok (.iadd, 1) := by decide +kernel
theorem dL_law_166 : decode cL_law 166 = .ok (.iaload, 1) := by decide +kernel
theorem dL_law_167 : decode cL_law 167 = .ok (.aload_n 0, 1) := by decide +kernel
theorem dL_law_168 : decode cL_law 168 = .ok (.iload_n 3, 1) := by decide +kernel
theorem dL_law_169 : decode cL_law 169 = .ok (.iconst 3, 1) := by decide +kernel
theorem dL_law_170 : decode cL_law 170 = .ok (.iadd, 1) := by decide +kernel
theorem dL_law_171 : decode cL_law 171 = .ok (.iaload, 1) := by decide +kernel
theorem dL_law_172 : decode cL_law 172 = .ok (.aload_n 0, 1) := by decide +kernel
theorem dL_law_173 : decode cL_law 173 = .ok (.iload_n 3, 1) := by decide +kernel
theorem dL_law_174 : decode cL_law 174 = .ok (.iconst 4, 1) := by decide +kernel
theorem dL_law_175 : decode cL_law 175 = .ok (.iadd, 1) := by decide +kernel
theorem dL_law_176 : decode cL_law 176 = .ok (.iaload, 1) := by decide +kernel
theorem dL_law_177 : decode cL_law 177 = .ok (.invokevirtual 13, 3) := by decide +kernel
theorem dL_law_180 : decode cL_law 180 = .ok (.aload_n 2, 1) := by decide +kernel
theorem dL_law_181 : decode cL_law 181 = .ok (.aload_n 0, 1) := by decide +kernel
theorem dL_law_182 : decode cL_law 182 = .ok (.iload_n 3, 1) := by decide +kernel
theorem dL_law_183 : decode cL_law 183 = .ok (.iconst 1, 1) := by decide +kernel
theorem dL_law_184 : decode cL_law 184 = .ok (.iadd, 1) := by decide +kernel
theorem dL_law_185 : decode cL_law 185 = .ok (.iaload, 1) := by decide +kernel
theorem dL_law_186 : decode cL_law 186 = .ok (.aload_n 0, 1) := by decide +kernel
theorem dL_law_187 : decode cL_law 187 = .ok (.iload_n 3, 1) := by decide +kernel
theorem dL_law_188 : decode cL_law 188 = .ok (.iconst 2, 1) := by decide +kernel
theorem dL_law_189 : decode cL_law 189 = .ok (.iadd, 1) := by decide +kernel
theorem dL_law_190 : decode cL_law 190 = .ok (.iaload, 1) := by decide +kernel
theorem dL_law_191 : decode cL_law 191 = .ok (.aload_n 0, 1) := by decide +kernel
theorem dL_law_192 : decode cL_law 192 = .ok (.iload_n 3, 1) := by decide +kernel
theorem dL_law_193 : decode cL_law 193 = .ok (.iconst 3, 1) := by decide +kernel
theorem dL_law_194 : decode cL_law 194 = .ok (.iadd, 1) := by decide +kernel
theorem dL_law_195 : decode cL_law 195 = .ok (.iaload, 1) := by decide +kernel
theorem dL_law_196 : decode cL_law 196 = .ok (.aload_n 0, 1) := by decide +kernel
theorem dL_law_197 : decode cL_law 197 = .ok (.iload_n 3, 1) := by decide +kernel
theorem dL_law_198 : decode cL_law 198 = .ok (.iconst 4, 1) := by decide +kernel
theorem dL_law_199 : decode cL_law 199 = .ok (.iadd, 1) := by decide +kernel
theorem dL_law_200 : decode cL_law 200 = .ok (.iaload, 1) := by decide +kernel
theorem dL_law_201 : decode cL_law 201 = .ok (.invokevirtual 17, 3) := by decide +kernel
theorem dL_law_204 : decode cL_law 204 = .ok (.if_icmp .eq 544, 3) := by decide +kernel
theorem dL_law_207 : decode cL_law 207 = .ok (.iconst 0, 1) := by decide +kernel
theorem dL_law_208 : decode cL_law 208 = .ok (.ireturn, 1) := by decide +kernel
theorem dL_law_209 : decode cL_law 209 = .ok (.aload_n 1, 1) := by decide +kernel
theorem dL_law_210 : decode cL_law 210 = .ok (.aload_n 0, 1) := by decide +kernel
theorem dL_law_211 : decode cL_law 211 = .ok (.iload_n 3, 1) := by decide +kernel
theorem dL_law_212 : decode cL_law 212 = .ok (.iconst 1, 1) := by decide +kernel
theorem dL_law_213 : decode cL_law 213 = .ok (.iadd, 1) := by decide +kernel
theorem dL_law_214 : decode cL_law 214 = .ok (.iaload, 1) := by decide +kernel
theorem dL_law_215 : decode cL_law 215 = .ok (.invokevirtual 18, 3) := by decide +kernel
theorem dL_law_218 : decode cL_law 218 = .ok (.aload_n 2, 1) := by decide +kernel
theorem dL_law_219 : decode cL_law 219 = .ok (.aload_n 0, 1) := by decide +kernel
theorem dL_law_220 : decode cL_law 220 = .ok (.iload_n 3, 1) := by decide +kernel
theorem dL_law_221 : decode cL_law 221 = .ok (.iconst 1, 1) := by decide +kernel
theorem dL_law_222 : decode cL_law 222 = .ok (.iadd, 1) := by decide +kernel
theorem dL_law_223 : decode cL_law 223 = .ok (.iaload, 1) := by decide +kernel
theorem dL_law_224 : decode cL_law 224 = .ok (.invokevirtual 22, 3) := by decide +kernel
theorem dL_law_227 : decode cL_law 227 = .ok (.if_icmp .eq 521, 3) := by decide +kernel
theorem dL_law_230 : decode cL_law 230 = .ok (.iconst 0, 1) := by decide +kernel
theorem dL_law_231 : decode cL_law 231 = .ok (.ireturn, 1) := by decide +kernel
theorem dL_law_232 : decode cL_law 232 = .ok (.aload_n 1, 1) := by decide +kernel
theorem dL_law_233 : decode cL_law 233 = .ok (.aload_n 0, 1) := by decide +kernel
theorem dL_law_234 : decode cL_law 234 = .ok (.iload_n 3, 1) := by decide +kernel
theorem dL_law_235 : decode cL_law 235 = .ok (.iconst 1, 1) := by decide +kernel
theorem dL_law_236 : decode cL_law 236 = .ok (.iadd, 1) := by decide +kernel
theorem dL_law_237 : decode cL_law 237 = .ok (.iaload, 1) := by decide +kernel
theorem dL_law_238 : decode cL_law 238 = .ok (.invokevirtual 23, 3) := by decide +kernel
theorem dL_law_241 : decode cL_law 241 = .ok (.aload_n 2, 1) := by decide +kernel
theorem dL_law_242 : decode cL_law 242 = .ok (.aload_n 0, 1) := by decide +kernel
theorem dL_law_243 : decode cL_law 243 = .ok (.iload_n 3, 1) := by decide +kernel
theorem dL_law_244 : decode cL_law 244 = .ok (.iconst 1, 1) := by decide +kernel
theorem dL_law_245 : decode cL_law 245 = .ok (.iadd, 1) := by decide +kernel
theorem dL_law_246 : decode cL_law 246 = .ok (.iaload, 1) := by decide +kernel
theorem dL_law_247 : decode cL_law 247 = .ok (.invokevirtual 26, 3) := by decide +kernel
theorem dL_law_250 : decode cL_law 250 = .ok (.if_icmp .eq 498, 3) := by decide +kernel
theorem dL_law_253 : decode cL_law 253 = .ok (.iconst 0, 1) := by decide +kernel
theorem dL_law_254 : decode cL_law 254 = .ok (.ireturn, 1) := by decide +kernel
theorem dL_law_255 : decode cL_law 255 = .ok (.aload_n 1, 1) := by decide +kernel
theorem dL_law_256 : decode cL_law 256 = .ok (.aload_n 0, 1) := by decide +kernel
theorem dL_law_257 : decode cL_law 257 = .ok (.iload_n 3, 1) := by decide +kernel
theorem dL_law_258 : decode cL_law 258 = .ok (.iconst 1, 1) := by decide +kernel
theorem dL_law_259 : decode cL_law 259 = .ok (.iadd, 1) := by decide +kernel
theorem dL_law_260 : decode cL_law 260 = .ok (.iaload, 1) := by decide +kernel
theorem dL_law_261 : decode cL_law 261 = .ok (.invokevirtual 27, 3) := by decide +kernel
theorem dL_law_264 : decode cL_law 264 = .ok (.aload_n 2, 1) := by decide +kernel
theorem dL_law_265 : decode cL_law 265 = .ok (.aload_n 0, 1) := by decide +kernel
theorem dL_law_266 : decode cL_law 266 = .ok (.iload_n 3, 1) := by decide +kernel
theorem dL_law_267 : decode cL_law 267 = .ok (.iconst 1, 1) := by decide +kernel
theorem dL_law_268 : decode cL_law 268 = .ok (.iadd, 1) := by decide +kernel
theorem dL_law_269 : decode cL_law 269 = .ok (.iaload, 1) := by decide +kernel
theorem dL_law_270 : decode cL_law 270 = .ok (.invokevirtual 30, 3) := by decide +kernel
theorem dL_law_273 : decode cL_law 273 = .ok (.if_icmp .eq 475, 3) := by decide +kernel
theorem dL_law_276 : decode cL_law 276 = .ok (.iconst 0, 1) := by decide +kernel
theorem dL_law_277 : decode cL_law 277 = .ok (.ireturn, 1) := by decide +kernel
theorem dL_law_278 : decode cL_law 278 = .ok (.aload_n 1, 1) := by decide +kernel
theorem dL_law_279 : decode cL_law 279 = .ok (.aload_n 0, 1) := by decide +kernel
theorem dL_law_280 : decode cL_law 280 = .ok (.iload_n 3, 1) := by decide +kernel
theorem dL_law_281 : decode cL_law 281 = .ok (.iconst 1, 1) := by decide +kernel
theorem dL_law_282 : decode cL_law 282 = .ok (.iadd, 1) := by decide +kernel
theorem dL_law_283 : decode cL_law 283 = .ok (.iaload, 1) := by decide +kernel
theorem dL_law_284 : decode cL_law 284 = .ok (.invokevirtual 31, 3) := by decide +kernel
theorem dL_law_287 : decode cL_law 287 = .ok (.aload_n 2, 1) := by decide +kernel
theorem dL_law_288 : decode cL_law 288 = .ok (.aload_n 0, 1) := by decide +kernel
theorem dL_law_289 : decode cL_law 289 = .ok (.iload_n 3, 1) := by decide +kernel
theorem dL_law_290 : decode cL_law 290 = .ok (.iconst 1, 1) := by decide +kernel
theorem dL_law_291 : decode cL_law 291 = .ok (.iadd, 1) := by decide +kernel
theorem dL_law_292 : decode cL_law 292 = .ok (.iaload, 1) := by decide +kernel
theorem dL_law_293 : decode cL_law 293 = .ok (.invokevirtual 34, 3) := by decide +kernel
theorem dL_law_296 : decode cL_law 296 = .ok (.if_icmp .eq 452, 3) := by decide +kernel
theorem dL_law_299 : decode cL_law 299 = .ok (.iconst 0, 1) := by decide +kernel
theorem dL_law_300 : decode cL_law 300 = .ok (.ireturn, 1) := by decide +kernel
theorem dL_law_301 : decode cL_law 301 = .ok (.aload_n 1, 1) := by decide +kernel
theorem dL_law_302 : decode cL_law 302 = .ok (.aload_n 0, 1) := by decide +kernel
theorem dL_law_303 : decode cL_law 303 = .ok (.iload_n 3, 1) := by decide +kernel
theorem dL_law_304 : decode cL_law 304 = .ok (.iconst 1, 1) := by decide +kernel
theorem dL_law_305 : decode cL_law 305 = .ok (.iadd, 1) := by decide +kernel
theorem dL_law_306 : decode cL_law 306 = .ok (.iaload, 1) := by decide +kernel
theorem dL_law_307 : decode cL_law 307 = .ok (.invokevirtual 35, 3) := by decide +kernel
theorem dL_law_310 : decode cL_law 310 = .ok (.aload_n 2, 1) := by decide +kernel
theorem dL_law_311 : decode cL_law 311 = .ok (.aload_n 0, 1) := by decide +kernel
theorem dL_law_312 : decode cL_law 312 = .ok (.iload_n 3, 1) := by decide +kernel
theorem dL_law_313 : decode cL_law 313 = .ok (.iconst 1, 1) := by decide +kernel
theorem dL_law_314 : decode cL_law 314 = .ok (.iadd, 1) := by decide +kernel
theorem dL_law_315 : decode cL_law 315 = .ok (.iaload, 1) := by decide +kernel
theorem dL_law_316 : decode cL_law 316 = .ok (.invokevirtual 38, 3) := by decide +kernel
theorem dL_law_319 : decode cL_law 319 = .ok (.if_icmp .eq 429, 3) := by decide +kernel
theorem dL_law_322 : decode cL_law 322 = .ok (.iconst 0, 1) := by decide +kernel
theorem dL_law_323 : decode cL_law 323 = .ok (.ireturn, 1) := by decide +kernel
theorem dL_law_324 : decode cL_law 324 = .ok (.aload_n 1, 1) := by decide +kernel
theorem dL_law_325 : decode cL_law 325 = .ok (.aload_n 0, 1) := by decide +kernel
theorem dL_law_326 : decode cL_law 326 = .ok (.iload_n 3, 1) := by decide +kernel
theorem dL_law_327 : decode cL_law 327 = .ok (.iconst 1, 1) := by decide +kernel
theorem dL_law_328 : decode cL_law 328 = .ok (.iadd, 1) := by decide +kernel
theorem dL_law_329 : decode cL_law 329 = .ok (.iaload, 1) := by decide +kernel
theorem dL_law_330 : decode cL_law 330 = .ok (.aload_n 0, 1) := by decide +kernel
theorem dL_law_331 : decode cL_law 331 = .ok (.iload_n 3, 1) := by decide +kernel
theorem dL_law_332 : decode cL_law 332 = .ok (.iconst 2, 1) := by decide +kernel
theorem dL_law_333 : decode cL_law 333 = .ok (.iadd, 1) := by decide +kernel
theorem dL_law_334 : decode cL_law 334 = .ok (.iaload, 1) := by decide +kernel
theorem dL_law_335 : decode cL_law 335 = .ok (.invokevirtual 39, 3) := by decide +kernel
theorem dL_law_338 : decode cL_law 338 = .ok (.aload_n 2, 1) := by decide +kernel
theorem dL_law_339 : decode cL_law 339 = .ok (.aload_n 0, 1) := by decide +kernel
theorem dL_law_340 : decode cL_law 340 = .ok (.iload_n 3, 1) := by decide +kernel
theorem dL_law_341 : decode cL_law 341 = .ok (.iconst 1, 1) := by decide +kernel
theorem dL_law_342 : decode cL_law 342 = .ok (.iadd, 1) := by decide +kernel
theorem dL_law_343 : decode cL_law 343 = .ok (.iaload, 1) := by decide +kernel
theorem dL_law_344 : decode cL_law 344 = .ok (.aload_n 0, 1) := by decide +kernel
theorem dL_law_345 : decode cL_law 345 = .ok (.iload_n 3, 1) := by decide +kernel
theorem dL_law_346 : decode cL_law 346 = .ok (.iconst 2, 1) := by decide +kernel
theorem dL_law_347 : decode cL_law 347 = .ok (.iadd, 1) := by decide +kernel
theorem dL_law_348 : decode cL_law 348 = .ok (.iaload, 1) := by decide +kernel
theorem dL_law_349 : decode cL_law 349 = .ok (.invokevirtual 43, 3) := by decide +kernel
theorem dL_law_352 : decode cL_law 352 = .ok (.if_icmp .eq 396, 3) := by decide +kernel
theorem dL_law_355 : decode cL_law 355 = .ok (.iconst 0, 1) := by decide +kernel
theorem dL_law_356 : decode cL_law 356 = .ok (.ireturn, 1) := by decide +kernel
theorem dL_law_357 : decode cL_law 357 = .ok (.aload_n 1, 1) := by decide +kernel
theorem dL_law_358 : decode cL_law 358 = .ok (.aload_n 0, 1) := by decide +kernel
theorem dL_law_359 : decode cL_law 359 = .ok (.iload_n 3, 1) := by decide +kernel
theorem dL_law_360 : decode cL_law 360 = .ok (.iconst 1, 1) := by decide +kernel
theorem dL_law_361 : decode cL_law 361 = .ok (.iadd, 1) := by decide +kernel
theorem dL_law_362 : decode cL_law 362 = .ok (.iaload, 1) := by decide +kernel
theorem dL_law_363 : decode cL_law 363 = .ok (.invokevirtual 44, 3) := by decide +kernel
theorem dL_law_366 : decode cL_law 366 = .ok (.aload_n 2, 1) := by decide +kernel
theorem dL_law_367 : decode cL_law 367 = .ok (.aload_n 0, 1) := by decide +kernel
theorem dL_law_368 : decode cL_law 368 = .ok (.iload_n 3, 1) := by decide +kernel
theorem dL_law_369 : decode cL_law 369 = .ok (.iconst 1, 1) := by decide +kernel
theorem dL_law_370 : decode cL_law 370 = .ok (.iadd, 1) := by decide +kernel
theorem dL_law_371 : decode cL_law 371 = .ok (.iaload, 1) := by decide +kernel
theorem dL_law_372 : decode cL_law 372 = .ok (.invokevirtual 47, 3) := by decide +kernel
theorem dL_law_375 : decode cL_law 375 = .ok (.if_icmp .eq 373, 3) := by decide +kernel
theorem dL_law_378 : decode cL_law 378 = .ok (.iconst 0, 1) := by decide +kernel
theorem dL_law_379 : decode cL_law 379 = .ok (.ireturn, 1) := by decide +kernel
theorem dL_law_380 : decode cL_law 380 = .ok (.aload_n 1, 1) := by decide +kernel
theorem dL_law_381 : decode cL_law 381 = .ok (.aload_n 0, 1) := by decide +kernel
theorem dL_law_382 : decode cL_law 382 = .ok (.iload_n 3, 1) := by decide +kernel
theorem dL_law_383 : decode cL_law 383 = .ok (.iconst 1, 1) := by decide +kernel
theorem dL_law_384 : decode cL_law 384 = .ok (.iadd, 1) := by decide +kernel
theorem dL_law_385 : decode cL_law 385 = .ok (.iaload, 1) := by decide +kernel
theorem dL_law_386 : decode cL_law 386 = .ok (.aload_n 0, 1) := by decide +kernel
theorem dL_law_387 : decode cL_law 387 = .ok (.iload_n 3, 1) := by decide +kernel
theorem dL_law_388 : decode cL_law 388 = .ok (.iconst 2, 1) := by decide +kernel
theorem dL_law_389 : decode cL_law 389 = .ok (.iadd, 1) := by decide +kernel
theorem dL_law_390 : decode cL_law 390 = .ok (.iaload, 1) := by decide +kernel
theorem dL_law_391 : decode cL_law 391 = .ok (.invokevirtual 48, 3) := by decide +kernel
theorem dL_law_394 : decode cL_law 394 = .ok (.aload_n 2, 1) := by decide +kernel
theorem dL_law_395 : decode cL_law 395 = .ok (.aload_n 0, 1) := by decide +kernel
theorem dL_law_396 : decode cL_law 396 = .ok (.iload_n 3, 1) := by decide +kernel
theorem dL_law_397 : decode cL_law 397 = .ok (.iconst 1, 1) := by decide +kernel
theorem dL_law_398 : decode cL_law 398 = .ok (.iadd, 1) := by decide +kernel
theorem dL_law_399 : decode cL_law 399 = .ok (.iaload, 1) := by decide +kernel
theorem dL_law_400 : decode cL_law 400 = .ok (.aload_n 0, 1) := by decide +kernel
theorem dL_law_401 : decode cL_law 401 = .ok (.iload_n 3, 1) := by decide +kernel
theorem dL_law_402 : decode cL_law 402 = .ok (.iconst 2, 1) := by decide +kernel
theorem dL_law_403 : decode cL_law 403 = .ok (.iadd, 1) := by decide +kernel
theorem dL_law_404 : decode cL_law 404 = .ok (.iaload, 1) := by decide +kernel
theorem dL_law_405 : decode cL_law 405 = .ok (.invokevirtual 51, 3) := by decide +kernel
theorem dL_law_408 : decode cL_law 408 = .ok (.if_icmp .eq 340, 3) := by decide +kernel
theorem dL_law_411 : decode cL_law 411 = .ok (.iconst 0, 1) := by decide +kernel
theorem dL_law_412 : decode cL_law 412 = .ok (.ireturn, 1) := by decide +kernel
theorem dL_law_413 : decode cL_law 413 = .ok (.aload_n 1, 1) := by decide +kernel
theorem dL_law_414 : decode cL_law 414 = .ok (.invokevirtual 52, 3) := by decide +kernel
theorem dL_law_417 : decode cL_law 417 = .ok (.aload_n 2, 1) := by decide +kernel
theorem dL_law_418 : decode cL_law 418 = .ok (.invokevirtual 56, 3) := by decide +kernel
theorem dL_law_421 : decode cL_law 421 = .ok (.if_icmp .eq 327, 3) := by decide +kernel
theorem dL_law_424 : decode cL_law 424 = .ok (.iconst 0, 1) := by decide +kernel
theorem dL_law_425 : decode cL_law 425 = .ok (.ireturn, 1) := by decide +kernel
theorem dL_law_426 : decode cL_law 426 = .ok (.aload_n 1, 1) := by decide +kernel
theorem dL_law_427 : decode cL_law 427 = .ok (.invokevirtual 57, 3) := by decide +kernel
theorem dL_law_430 : decode cL_law 430 = .ok (.aload_n 2, 1) := by decide +kernel
theorem dL_law_431 : decode cL_law 431 = .ok (.invokevirtual 60, 3) := by decide +kernel
theorem dL_law_434 : decode cL_law 434 = .ok (.if_icmp .eq 314, 3) := by decide +kernel
theorem dL_law_437 : decode cL_law 437 = .ok (.iconst 0, 1) := by decide +kernel
theorem dL_law_438 : decode cL_law 438 = .ok (.ireturn, 1) := by decide +kernel
theorem dL_law_439 : decode cL_law 439 = .ok (.aload_n 1, 1) := by decide +kernel
theorem dL_law_440 : decode cL_law 440 = .ok (.invokevirtual 61, 3) := by decide +kernel
theorem dL_law_443 : decode cL_law 443 = .ok (.aload_n 2, 1) := by decide +kernel
theorem dL_law_444 : decode cL_law 444 = .ok (.invokevirtual 64, 3) := by decide +kernel
theorem dL_law_447 : decode cL_law 447 = .ok (.if_icmp .eq 301, 3) := by decide +kernel
theorem dL_law_450 : decode cL_law 450 = .ok (.iconst 0, 1) := by decide +kernel
theorem dL_law_451 : decode cL_law 451 = .ok (.ireturn, 1) := by decide +kernel
theorem dL_law_452 : decode cL_law 452 = .ok (.aload_n 1, 1) := by decide +kernel
theorem dL_law_453 : decode cL_law 453 = .ok (.invokevirtual 65, 3) := by decide +kernel
theorem dL_law_456 : decode cL_law 456 = .ok (.aload_n 2, 1) := by decide +kernel
theorem dL_law_457 : decode cL_law 457 = .ok (.invokevirtual 68, 3) := by decide +kernel
theorem dL_law_460 : decode cL_law 460 = .ok (.if_icmp .eq 288, 3) := by decide +kernel
theorem dL_law_463 : decode cL_law 463 = .ok (.iconst 0, 1) := by decide +kernel
theorem dL_law_464 : decode cL_law 464 = .ok (.ireturn, 1) := by decide +kernel
theorem dL_law_465 : decode cL_law 465 = .ok (.aload_n 1, 1) := by decide +kernel
theorem dL_law_466 : decode cL_law 466 = .ok (.invokevirtual 69, 3) := by decide +kernel
theorem dL_law_469 : decode cL_law 469 = .ok (.aload_n 2, 1) := by decide +kernel
theorem dL_law_470 : decode cL_law 470 = .ok (.invokevirtual 72, 3) := by decide +kernel
theorem dL_law_473 : decode cL_law 473 = .ok (.if_icmp .eq 275, 3) := by decide +kernel
theorem dL_law_476 : decode cL_law 476 = .ok (.iconst 0, 1) := by decide +kernel
theorem dL_law_477 : decode cL_law 477 = .ok (.ireturn, 1) := by decide +kernel
theorem dL_law_478 : decode cL_law 478 = .ok (.aload_n 1, 1) := by decide +kernel
theorem dL_law_479 : decode cL_law 479 = .ok (.invokevirtual 73, 3) := by decide +kernel
theorem dL_law_482 : decode cL_law 482 = .ok (.aload_n 2, 1) := by decide +kernel
theorem dL_law_483 : decode cL_law 483 = .ok (.invokevirtual 76, 3) := by decide +kernel
theorem dL_law_486 : decode cL_law 486 = .ok (.if_icmp .eq 262, 3) := by decide +kernel
theorem dL_law_489 : decode cL_law 489 = .ok (.iconst 0, 1) := by decide +kernel
theorem dL_law_490 : decode cL_law 490 = .ok (.ireturn, 1) := by decide +kernel
theorem dL_law_491 : decode cL_law 491 = .ok (.aload_n 1, 1) := by decide +kernel
theorem dL_law_492 : decode cL_law 492 = .ok (.aload_n 0, 1) := by decide +kernel
theorem dL_law_493 : decode cL_law 493 = .ok (.iload_n 3, 1) := by decide +kernel
theorem dL_law_494 : decode cL_law 494 = .ok (.iconst 1, 1) := by decide +kernel
theorem dL_law_495 : decode cL_law 495 = .ok (.iadd, 1) := by decide +kernel
theorem dL_law_496 : decode cL_law 496 = .ok (.iaload, 1) := by decide +kernel
theorem dL_law_497 : decode cL_law 497 = .ok (.aload_n 0, 1) := by decide +kernel
theorem dL_law_498 : decode cL_law 498 = .ok (.iload_n 3, 1) := by decide +kernel
theorem dL_law_499 : decode cL_law 499 = .ok (.iconst 2, 1) := by decide +kernel
theorem dL_law_500 : decode cL_law 500 = .ok (.iadd, 1) := by decide +kernel
theorem dL_law_501 : decode cL_law 501 = .ok (.iaload, 1) := by decide +kernel
theorem dL_law_502 : decode cL_law 502 = .ok (.invokevirtual 77, 3) := by decide +kernel
theorem dL_law_505 : decode cL_law 505 = .ok (.aload_n 2, 1) := by decide +kernel
theorem dL_law_506 : decode cL_law 506 = .ok (.aload_n 0, 1) := by decide +kernel
theorem dL_law_507 : decode cL_law 507 = .ok (.iload_n 3, 1) := by decide +kernel
theorem dL_law_508 : decode cL_law 508 = .ok (.iconst 1, 1) := by decide +kernel
theorem dL_law_509 : decode cL_law 509 = .ok (.iadd, 1) := by decide +kernel
theorem dL_law_510 : decode cL_law 510 = .ok (.iaload, 1) := by decide +kernel
theorem dL_law_511 : decode cL_law 511 = .ok (.aload_n 0, 1) := by decide +kernel
theorem dL_law_512 : decode cL_law 512 = .ok (.iload_n 3, 1) := by decide +kernel
theorem dL_law_513 : decode cL_law 513 = .ok (.iconst 2, 1) := by decide +kernel
theorem dL_law_514 : decode cL_law 514 = .ok (.iadd, 1) := by decide +kernel
theorem dL_law_515 : decode cL_law 515 = .ok (.iaload, 1) := by decide +kernel
theorem dL_law_516 : decode cL_law 516 = .ok (.invokevirtual 80, 3) := by decide +kernel
theorem dL_law_519 : decode cL_law 519 = .ok (.if_icmp .eq 229, 3) := by decide +kernel
theorem dL_law_522 : decode cL_law 522 = .ok (.iconst 0, 1) := by decide +kernel
theorem dL_law_523 : decode cL_law 523 = .ok (.ireturn, 1) := by decide +kernel
theorem dL_law_524 : decode cL_law 524 = .ok (.aload_n 1, 1) := by decide +kernel
theorem dL_law_525 : decode cL_law 525 = .ok (.aload_n 0, 1) := by decide +kernel
theorem dL_law_526 : decode cL_law 526 = .ok (.iload_n 3, 1) := by decide +kernel
theorem dL_law_527 : decode cL_law 527 = .ok (.iconst 1, 1) := by decide +kernel
theorem dL_law_528 : decode cL_law 528 = .ok (.iadd, 1) := by decide +kernel
theorem dL_law_529 : decode cL_law 529 = .ok (.iaload, 1) := by decide +kernel
theorem dL_law_530 : decode cL_law 530 = .ok (.invokevirtual 81, 3) := by decide +kernel
theorem dL_law_533 : decode cL_law 533 = .ok (.aload_n 2, 1) := by decide +kernel
theorem dL_law_534 : decode cL_law 534 = .ok (.aload_n 0, 1) := by decide +kernel
theorem dL_law_535 : decode cL_law 535 = .ok (.iload_n 3, 1) := by decide +kernel
theorem dL_law_536 : decode cL_law 536 = .ok (.iconst 1, 1) := by decide +kernel
theorem dL_law_537 : decode cL_law 537 = .ok (.iadd, 1) := by decide +kernel
theorem dL_law_538 : decode cL_law 538 = .ok (.iaload, 1) := by decide +kernel
theorem dL_law_539 : decode cL_law 539 = .ok (.invokevirtual 84, 3) := by decide +kernel
theorem dL_law_542 : decode cL_law 542 = .ok (.if_icmp .eq 206, 3) := by decide +kernel
theorem dL_law_545 : decode cL_law 545 = .ok (.iconst 0, 1) := by decide +kernel
theorem dL_law_546 : decode cL_law 546 = .ok (.ireturn, 1) := by decide +kernel
theorem dL_law_547 : decode cL_law 547 = .ok (.aload_n 1, 1) := by decide +kernel
theorem dL_law_548 : decode cL_law 548 = .ok (.aload_n 0, 1) := by decide +kernel
theorem dL_law_549 : decode cL_law 549 = .ok (.iload_n 3, 1) := by decide +kernel
theorem dL_law_550 : decode cL_law 550 = .ok (.iconst 1, 1) := by decide +kernel
theorem dL_law_551 : decode cL_law 551 = .ok (.iadd, 1) := by decide +kernel
theorem dL_law_552 : decode cL_law 552 = .ok (.iaload, 1) := by decide +kernel
theorem dL_law_553 : decode cL_law 553 = .ok (.invokevirtual 85, 3) := by decide +kernel
theorem dL_law_556 : decode cL_law 556 = .ok (.aload_n 2, 1) := by decide +kernel
theorem dL_law_557 : decode cL_law 557 = .ok (.aload_n 0, 1) := by decide +kernel
theorem dL_law_558 : decode cL_law 558 = .ok (.iload_n 3, 1) := by decide +kernel
theorem dL_law_559 : decode cL_law 559 = .ok (.iconst 1, 1) := by decide +kernel
theorem dL_law_560 : decode cL_law 560 = .ok (.iadd, 1) := by decide +kernel
theorem dL_law_561 : decode cL_law 561 = .ok (.iaload, 1) := by decide +kernel
theorem dL_law_562 : decode cL_law 562 = .ok (.invokevirtual 88, 3) := by decide +kernel
theorem dL_law_565 : decode cL_law 565 = .ok (.if_icmp .eq 183, 3) := by decide +kernel
theorem dL_law_568 : decode cL_law 568 = .ok (.iconst 0, 1) := by decide +kernel
theorem dL_law_569 : decode cL_law 569 = .ok (.ireturn, 1) := by decide +kernel
theorem dL_law_570 : decode cL_law 570 = .ok (.aload_n 1, 1) := by decide +kernel
theorem dL_law_571 : decode cL_law 571 = .ok (.aload_n 0, 1) := by decide +kernel
theorem dL_law_572 : decode cL_law 572 = .ok (.iload_n 3, 1) := by decide +kernel
theorem dL_law_573 : decode cL_law 573 = .ok (.iconst 1, 1) := by decide +kernel
theorem dL_law_574 : decode cL_law 574 = .ok (.iadd, 1) := by decide +kernel
theorem dL_law_575 : decode cL_law 575 = .ok (.iaload, 1) := by decide +kernel
theorem dL_law_576 : decode cL_law 576 = .ok (.invokevirtual 89, 3) := by decide +kernel
theorem dL_law_579 : decode cL_law 579 = .ok (.aload_n 2, 1) := by decide +kernel
theorem dL_law_580 : decode cL_law 580 = .ok (.aload_n 0, 1) := by decide +kernel
theorem dL_law_581 : decode cL_law 581 = .ok (.iload_n 3, 1) := by decide +kernel
theorem dL_law_582 : decode cL_law 582 = .ok (.iconst 1, 1) := by decide +kernel
theorem dL_law_583 : decode cL_law 583 = .ok (.iadd, 1) := by decide +kernel
theorem dL_law_584 : decode cL_law 584 = .ok (.iaload, 1) := by decide +kernel
theorem dL_law_585 : decode cL_law 585 = .ok (.invokevirtual 92, 3) := by decide +kernel
theorem dL_law_588 : decode cL_law 588 = .ok (.if_icmp .eq 160, 3) := by decide +kernel
theorem dL_law_591 : decode cL_law 591 = .ok (.iconst 0, 1) := by decide +kernel
theorem dL_law_592 : decode cL_law 592 = .ok (.ireturn, 1) := by decide +kernel
theorem dL_law_593 : decode cL_law 593 = .ok (.aload_n 1, 1) := by decide +kernel
theorem dL_law_594 : decode cL_law 594 = .ok (.aload_n 0, 1) := by decide +kernel
theorem dL_law_595 : decode cL_law 595 = .ok (.iload_n 3, 1) := by decide +kernel
theorem dL_law_596 : decode cL_law 596 = .ok (.iconst 1, 1) := by decide +kernel
theorem dL_law_597 : decode cL_law 597 = .ok (.iadd, 1) := by decide +kernel
theorem dL_law_598 : decode cL_law 598 = .ok (.iaload, 1) := by decide +kernel
theorem dL_law_599 : decode cL_law 599 = .ok (.aload_n 0, 1) := by decide +kernel
theorem dL_law_600 : decode cL_law 600 = .ok (.iload_n 3, 1) := by decide +kernel
theorem dL_law_601 : decode cL_law 601 = .ok (.iconst 2, 1) := by decide +kernel
theorem dL_law_602 : decode cL_law 602 = .ok (.iadd, 1) := by decide +kernel
theorem dL_law_603 : decode cL_law 603 = .ok (.iaload, 1) := by decide +kernel
theorem dL_law_604 : decode cL_law 604 = .ok (.invokevirtual 93, 3) := by decide +kernel
theorem dL_law_607 : decode cL_law 607 = .ok (.aload_n 2, 1) := by decide +kernel
theorem dL_law_608 : decode cL_law 608 = .ok (.aload_n 0, 1) := by decide +kernel
theorem dL_law_609 : decode cL_law 609 = .ok (.iload_n 3, 1) := by decide +kernel
theorem dL_law_610 : decode cL_law 610 = .ok (.iconst 1, 1) := by decide +kernel
theorem dL_law_611 : decode cL_law 611 = .ok (.iadd, 1) := by decide +kernel
theorem dL_law_612 : decode cL_law 612 = .ok (.iaload, 1) := by decide +kernel
theorem dL_law_613 : decode cL_law 613 = .ok (.aload_n 0, 1) := by decide +kernel
theorem dL_law_614 : decode cL_law 614 = .ok (.iload_n 3, 1) := by decide +kernel
theorem dL_law_615 : decode cL_law 615 = .ok (.iconst 2, 1) := by decide +kernel
theorem dL_law_616 : decode cL_law 616 = .ok (.iadd, 1) := by decide +kernel
theorem dL_law_617 : decode cL_law 617 = .ok (.iaload, 1) := by decide +kernel
theorem dL_law_618 : decode cL_law 618 = .ok (.invokevirtual 96, 3) := by decide +kernel
theorem dL_law_621 : decode cL_law 621 = .ok (.if_icmp .eq 127, 3) := by decide +kernel
theorem dL_law_624 : decode cL_law 624 = .ok (.iconst 0, 1) := by decide +kernel
theorem dL_law_625 : decode cL_law 625 = .ok (.ireturn, 1) := by decide +kernel
theorem dL_law_626 : decode cL_law 626 = .ok (.aload_n 1, 1) := by decide +kernel
theorem dL_law_627 : decode cL_law 627 = .ok (.aload_n 0, 1) := by decide +kernel
theorem dL_law_628 : decode cL_law 628 = .ok (.iload_n 3, 1) := by decide +kernel
theorem dL_law_629 : decode cL_law 629 = .ok (.iconst 1, 1) := by decide +kernel
theorem dL_law_630 : decode cL_law 630 = .ok (.iadd, 1) := by decide +kernel
theorem dL_law_631 : decode cL_law 631 = .ok (.iaload, 1) := by decide +kernel
theorem dL_law_632 : decode cL_law 632 = .ok (.aload_n 0, 1) := by decide +kernel
theorem dL_law_633 : decode cL_law 633 = .ok (.iload_n 3, 1) := by decide +kernel
theorem dL_law_634 : decode cL_law 634 = .ok (.iconst 2, 1) := by decide +kernel
theorem dL_law_635 : decode cL_law 635 = .ok (.iadd, 1) := by decide +kernel
theorem dL_law_636 : decode cL_law 636 = .ok (.iaload, 1) := by decide +kernel
theorem dL_law_637 : decode cL_law 637 = .ok (.invokevirtual 97, 3) := by decide +kernel
theorem dL_law_640 : decode cL_law 640 = .ok (.aload_n 2, 1) := by decide +kernel
theorem dL_law_641 : decode cL_law 641 = .ok (.aload_n 0, 1) := by decide +kernel
theorem dL_law_642 : decode cL_law 642 = .ok (.iload_n 3, 1) := by decide +kernel
theorem dL_law_643 : decode cL_law 643 = .ok (.iconst 1, 1) := by decide +kernel
theorem dL_law_644 : decode cL_law 644 = .ok (.iadd, 1) := by decide +kernel
theorem dL_law_645 : decode cL_law 645 = .ok (.iaload, 1) := by decide +kernel
theorem dL_law_646 : decode cL_law 646 = .ok (.aload_n 0, 1) := by decide +kernel
theorem dL_law_647 : decode cL_law 647 = .ok (.iload_n 3, 1) := by decide +kernel
theorem dL_law_648 : decode cL_law 648 = .ok (.iconst 2, 1) := by decide +kernel
theorem dL_law_649 : decode cL_law 649 = .ok (.iadd, 1) := by decide +kernel
theorem dL_law_650 : decode cL_law 650 = .ok (.iaload, 1) := by decide +kernel
theorem dL_law_651 : decode cL_law 651 = .ok (.invokevirtual 100, 3) := by decide +kernel
theorem dL_law_654 : decode cL_law 654 = .ok (.if_icmp .eq 94, 3) := by decide +kernel
theorem dL_law_657 : decode cL_law 657 = .ok (.iconst 0, 1) := by decide +kernel
theorem dL_law_658 : decode cL_law 658 = .ok (.ireturn, 1) := by decide +kernel
theorem dL_law_659 : decode cL_law 659 = .ok (.aload_n 1, 1) := by decide +kernel
theorem dL_law_660 : decode cL_law 660 = .ok (.invokevirtual 101, 3) := by decide +kernel
theorem dL_law_663 : decode cL_law 663 = .ok (.aload_n 2, 1) := by decide +kernel
theorem dL_law_664 : decode cL_law 664 = .ok (.invokevirtual 104, 3) := by decide +kernel
theorem dL_law_667 : decode cL_law 667 = .ok (.if_icmp .eq 81, 3) := by decide +kernel
theorem dL_law_670 : decode cL_law 670 = .ok (.iconst 0, 1) := by decide +kernel
theorem dL_law_671 : decode cL_law 671 = .ok (.ireturn, 1) := by decide +kernel
theorem dL_law_672 : decode cL_law 672 = .ok (.aload_n 1, 1) := by decide +kernel
theorem dL_law_673 : decode cL_law 673 = .ok (.invokevirtual 105, 3) := by decide +kernel
theorem dL_law_676 : decode cL_law 676 = .ok (.aload_n 2, 1) := by decide +kernel
theorem dL_law_677 : decode cL_law 677 = .ok (.invokevirtual 108, 3) := by decide +kernel
theorem dL_law_680 : decode cL_law 680 = .ok (.if_icmp .eq 68, 3) := by decide +kernel
theorem dL_law_683 : decode cL_law 683 = .ok (.iconst 0, 1) := by decide +kernel
theorem dL_law_684 : decode cL_law 684 = .ok (.ireturn, 1) := by decide +kernel
theorem dL_law_685 : decode cL_law 685 = .ok (.aload_n 1, 1) := by decide +kernel
theorem dL_law_686 : decode cL_law 686 = .ok (.invokevirtual 109, 3) := by decide +kernel
theorem dL_law_689 : decode cL_law 689 = .ok (.aload_n 2, 1) := by decide +kernel
theorem dL_law_690 : decode cL_law 690 = .ok (.invokevirtual 112, 3) := by decide +kernel
theorem dL_law_693 : decode cL_law 693 = .ok (.if_icmp .eq 55, 3) := by decide +kernel
theorem dL_law_696 : decode cL_law 696 = .ok (.iconst 0, 1) := by decide +kernel
theorem dL_law_697 : decode cL_law 697 = .ok (.ireturn, 1) := by decide +kernel
theorem dL_law_698 : decode cL_law 698 = .ok (.aload_n 1, 1) := by decide +kernel
theorem dL_law_699 : decode cL_law 699 = .ok (.invokevirtual 113, 3) := by decide +kernel
theorem dL_law_702 : decode cL_law 702 = .ok (.aload_n 2, 1) := by decide +kernel
theorem dL_law_703 : decode cL_law 703 = .ok (.invokevirtual 116, 3) := by decide +kernel
theorem dL_law_706 : decode cL_law 706 = .ok (.if_icmp .eq 42, 3) := by decide +kernel
theorem dL_law_709 : decode cL_law 709 = .ok (.iconst 0, 1) := by decide +kernel
theorem dL_law_710 : decode cL_law 710 = .ok (.ireturn, 1) := by decide +kernel
theorem dL_law_711 : decode cL_law 711 = .ok (.aload_n 1, 1) := by decide +kernel
theorem dL_law_712 : decode cL_law 712 = .ok (.aload_n 0, 1) := by decide +kernel
theorem dL_law_713 : decode cL_law 713 = .ok (.iload_n 3, 1) := by decide +kernel
theorem dL_law_714 : decode cL_law 714 = .ok (.iconst 1, 1) := by decide +kernel
theorem dL_law_715 : decode cL_law 715 = .ok (.iadd, 1) := by decide +kernel
theorem dL_law_716 : decode cL_law 716 = .ok (.iaload, 1) := by decide +kernel
theorem dL_law_717 : decode cL_law 717 = .ok (.invokevirtual 117, 3) := by decide +kernel
theorem dL_law_720 : decode cL_law 720 = .ok (.aload_n 2, 1) := by decide +kernel
theorem dL_law_721 : decode cL_law 721 = .ok (.aload_n 0, 1) := by decide +kernel
theorem dL_law_722 : decode cL_law 722 = .ok (.iload_n 3, 1) := by decide +kernel
theorem dL_law_723 : decode cL_law 723 = .ok (.iconst 1, 1) := by decide +kernel
theorem dL_law_724 : decode cL_law 724 = .ok (.iadd, 1) := by decide +kernel
theorem dL_law_725 : decode cL_law 725 = .ok (.iaload, 1) := by decide +kernel
theorem dL_law_726 : decode cL_law 726 = .ok (.invokevirtual 120, 3) := by decide +kernel
theorem dL_law_729 : decode cL_law 729 = .ok (.if_icmp .eq 19, 3) := by decide +kernel
theorem dL_law_732 : decode cL_law 732 = .ok (.iconst 0, 1) := by decide +kernel
theorem dL_law_733 : decode cL_law 733 = .ok (.ireturn, 1) := by decide +kernel
theorem dL_law_734 : decode cL_law 734 = .ok (.aload_n 1, 1) := by decide +kernel
theorem dL_law_735 : decode cL_law 735 = .ok (.invokevirtual 121, 3) := by decide +kernel
theorem dL_law_738 : decode cL_law 738 = .ok (.aload_n 2, 1) := by decide +kernel
theorem dL_law_739 : decode cL_law 739 = .ok (.invokevirtual 125, 3) := by decide +kernel
theorem dL_law_742 : decode cL_law 742 = .ok (.lcmp, 1) := by decide +kernel
theorem dL_law_743 : decode cL_law 743 = .ok (.ifCond .eq 5, 3) := by decide +kernel
theorem dL_law_746 : decode cL_law 746 = .ok (.iconst 0, 1) := by decide +kernel
theorem dL_law_747 : decode cL_law 747 = .ok (.ireturn, 1) := by decide +kernel
theorem dL_law_748 : decode cL_law 748 = .ok (.iinc 3 5, 3) := by decide +kernel
theorem dL_law_751 : decode cL_law 751 = .ok (.goto (-733), 3) := by decide +kernel
theorem dL_law_754 : decode cL_law 754 = .ok (.iconst 1, 1) := by decide +kernel
theorem dL_law_755 : decode cL_law 755 = .ok (.ireturn, 1) := by decide +kernel
end
section
set_option maxRecDepth 20000 in
theorem ggX0_copyFrom_X0_clear : GoodIn wsX0_copyFrom wsX0_clear := goodIn_r _ [8, 9, 1, 10, 27, 28, 29, 30, 31, 32] rfl (by decide +kernel)
set_option maxRecDepth 20000 in
theorem gX0_copyFrom_X0_clear : GoodIn wsX0_copyFrom (wsV RX0 33 RX0 yX0_clear wsX0_clear) := goodIn_app (goodIn_of _ (by decide +kernel)) ggX0_copyFrom_X0_clear
set_option maxRecDepth 20000 in
theorem ggX0_copyFrom_X0_placeOfAge : GoodIn wsX0_copyFrom wsX0_placeOfAge := goodIn_r _ [14, 9, 15, 16, 17, 18, 27, 28, 29, 30, 31, 32] rfl (by decide +kernel)
set_option maxRecDepth 20000 in
theorem gX0_copyFrom_X0_placeOfAge : GoodIn wsX0_copyFrom (wsV RX0 36 RX0 yX0_placeOfAge wsX0_placeOfAge) := goodIn_app (goodIn_of _ (by decide +kernel)) ggX0_copyFrom_X0_placeOfAge
set_option maxRecDepth 20000 in
theorem ggX0_copyFrom_X0_enter : GoodIn wsX0_copyFrom wsX0_enter := goodIn_r _ [22, 1, 2, 3, 10, 23, 24, 25, 7, 26, 11, 12, 13, 14, 9, 15, 16, 17, 18, 27, 28, 29, 30, 31, 32] rfl (by decide +kernel)
set_option maxRecDepth 20000 in
theorem gX0_copyFrom_X0_enter : GoodIn wsX0_copyFrom (wsV RX0 40 RX0 yX0_enter wsX0_enter) := goodIn_app (goodIn_of _ (by decide +kernel)) ggX0_copyFrom_X0_enter
set_option maxRecDepth 20000 in
theorem ggX0_placeOfAge_J9_floorMod_7cf53 : GoodIn wsX0_placeOfAge wsJ9_floorMod_7cf53 := goodIn_r _ [5] rfl (by decide +kernel)
set_option maxRecDepth 20000 in
theorem gX0_placeOfAge_J9_floorMod_7cf53 : GoodIn wsX0_placeOfAge (va_wsS RX0 44 yJ9_floorMod_7cf53 wsJ9_floorMod_7cf53) := goodIn_app (goodIn_of _ (by decide +kernel)) ggX0_placeOfAge_J9_floorMod_7cf53
set_option maxRecDepth 20000 in
theorem ggX0_placeOfIndex_J9_floorMod_7cf53 : GoodIn wsX0_placeOfIndex wsJ9_floorMod_7cf53 := goodIn_r _ [7] rfl (by decide +kernel)
set_option maxRecDepth 20000 in
theorem gX0_placeOfIndex_J9_floorMod_7cf53 : GoodIn wsX0_placeOfIndex (va_wsS RX0 44 yJ9_floorMod_7cf53 wsJ9_floorMod_7cf53) := goodIn_app (goodIn_of _ (by decide +kernel)) ggX0_placeOfIndex_J9_floorMod_7cf53
set_option maxRecDepth 20000 in
theorem ggX0_volumeOf_X0_placeOfIndex : GoodIn wsX0_volumeOf wsX0_placeOfIndex := goodIn_r _ [6, 7, 8, 9, 10, 11, 12, 13, 14, 15, 16, 17, 18, 19] rfl (by decide +kernel)
set_option maxRecDepth 20000 in
theorem gX0_volumeOf_X0_placeOfIndex : GoodIn wsX0_volumeOf (wsV RX0 50 RX0 yX0_placeOfIndex wsX0_placeOfIndex) := goodIn_app (goodIn_of _ (by decide +kernel)) ggX0_volumeOf_X0_placeOfIndex
set_option maxRecDepth 20000 in
theorem ggX0_densityOf_X0_placeOfIndex : GoodIn wsX0_densityOf wsX0_placeOfIndex := goodIn_r _ [6, 7, 8, 9, 10, 11, 12, 13, 14, 15, 16, 17, 18, 19] rfl (by decide +kernel)
set_option maxRecDepth 20000 in
theorem gX0_densityOf_X0_placeOfIndex : GoodIn wsX0_densityOf (wsV RX0 50 RX0 yX0_placeOfIndex wsX0_placeOfIndex) := goodIn_app (goodIn_of _ (by decide +kernel)) ggX0_densityOf_X0_placeOfIndex
set_option maxRecDepth 20000 in
theorem ggX0_enter_X0_joinsNewest : GoodIn wsX0_enter wsX0_joinsNewest := goodIn_r _ [9, 1, 3, 10, 11, 12, 8, 13, 14, 15, 16, 17, 18, 19, 20, 21, 22, 23, 24] rfl (by decide +kernel)
set_option maxRecDepth 20000 in
theorem gX0_enter_X0_joinsNewest : GoodIn wsX0_enter (wsV RX0 53 RX0 yX0_joinsNewest wsX0_joinsNewest) := goodIn_app (goodIn_of _ (by decide +kernel)) ggX0_enter_X0_joinsNewest
set_option maxRecDepth 20000 in
theorem ggX0_enter_X0_placeOfAge : GoodIn wsX0_enter wsX0_placeOfAge := goodIn_r _ [13, 14, 15, 16, 17, 18, 19, 20, 21, 22, 23, 24] rfl (by decide +kernel)
set_option maxRecDepth 20000 in
theorem gX0_enter_X0_placeOfAge : GoodIn wsX0_enter (wsV RX0 36 RX0 yX0_placeOfAge wsX0_placeOfAge) := goodIn_app (goodIn_of _ (by decide +kernel)) ggX0_enter_X0_placeOfAge
set_option maxRecDepth 20000 in
theorem ggX0_joinsNewest_X0_placeOfAge : GoodIn wsX0_joinsNewest wsX0_placeOfAge := goodIn_r _ [7, 8, 9, 10, 11, 12, 13, 14, 15, 16, 17, 18] rfl (by decide +kernel)
set_option maxRecDepth 20000 in
theorem gX0_joinsNewest_X0_placeOfAge : GoodIn wsX0_joinsNewest (wsV RX0 36 RX0 yX0_placeOfAge wsX0_placeOfAge) := goodIn_app (goodIn_of _ (by decide +kernel)) ggX0_joinsNewest_X0_placeOfAge
set_option maxRecDepth 20000 in
theorem ggX0_release_X0_releaseOldest : GoodIn wsX0_release wsX0_releaseOldest := goodIn_r _ [6, 7, 8, 9, 10, 11, 12, 13, 14, 1, 15, 16, 17, 5, 18, 19, 20, 21, 22, 23, 24, 25, 26, 27, 28] rfl (by decide +kernel)
set_option maxRecDepth 20000 in
theorem gX0_release_X0_releaseOldest : GoodIn wsX0_release (wsV RX0 57 RX0 yX0_releaseOldest wsX0_releaseOldest) := goodIn_app (goodIn_of _ (by decide +kernel)) ggX0_release_X0_releaseOldest
set_option maxRecDepth 20000 in
theorem ggX0_releaseInto_X0_placeOfAge : GoodIn wsX0_releaseInto wsX0_placeOfAge := goodIn_r _ [7, 8, 9, 10, 11, 12, 31, 32, 33, 34, 35, 36] rfl (by decide +kernel)
set_option maxRecDepth 20000 in
theorem gX0_releaseInto_X0_placeOfAge : GoodIn wsX0_releaseInto (wsV RX0 36 RX0 yX0_placeOfAge wsX0_placeOfAge) := goodIn_app (goodIn_of _ (by decide +kernel)) ggX0_releaseInto_X0_placeOfAge
set_option maxRecDepth 20000 in
theorem ggX0_releaseInto_X0_releaseOldest : GoodIn wsX0_releaseInto wsX0_releaseOldest := goodIn_r _ [16, 17, 18, 19, 20, 21, 22, 2, 8, 1, 3, 4, 5, 6, 7, 9, 10, 11, 12, 31, 32, 33, 34, 35, 36] rfl (by decide +kernel)
set_option maxRecDepth 20000 in
theorem gX0_releaseInto_X0_releaseOldest : GoodIn wsX0_releaseInto (wsV RX0 57 RX0 yX0_releaseOldest wsX0_releaseOldest) := goodIn_app (goodIn_of _ (by decide +kernel)) ggX0_releaseInto_X0_releaseOldest
set_option maxRecDepth 20000 in
theorem ggX0_releaseInto_X0_enter : GoodIn wsX0_releaseInto wsX0_enter := goodIn_r _ [26, 1, 17, 2, 22, 27, 28, 29, 6, 30, 3, 4, 5, 7, 8, 9, 10, 11, 12, 31, 32, 33, 34, 35, 36] rfl (by decide +kernel)
set_option maxRecDepth 20000 in
theorem gX0_releaseInto_X0_enter : GoodIn wsX0_releaseInto (wsV RX0 40 RX0 yX0_enter wsX0_enter) := goodIn_app (goodIn_of _ (by decide +kernel)) ggX0_releaseInto_X0_enter
set_option maxRecDepth 20000 in
theorem ggX0_releaseOldest_X0_placeOfAge : GoodIn wsX0_releaseOldest wsX0_placeOfAge := goodIn_r _ [14, 8, 15, 16, 17, 18, 19, 20, 21, 22, 23, 24] rfl (by decide +kernel)
set_option maxRecDepth 20000 in
theorem gX0_releaseOldest_X0_placeOfAge : GoodIn wsX0_releaseOldest (wsV RX0 36 RX0 yX0_placeOfAge wsX0_placeOfAge) := goodIn_app (goodIn_of _ (by decide +kernel)) ggX0_releaseOldest_X0_placeOfAge
set_option maxRecDepth 20000 in
theorem ggX0_loadAbove_X0_placeOfIndex : GoodIn wsX0_loadAbove wsX0_placeOfIndex := goodIn_r _ [12, 13, 1, 14, 15, 16, 17, 18, 19, 20, 21, 22, 23, 24] rfl (by decide +kernel)
set_option maxRecDepth 20000 in
theorem gX0_loadAbove_X0_placeOfIndex : GoodIn wsX0_loadAbove (wsV RX0 50 RX0 yX0_placeOfIndex wsX0_placeOfIndex) := goodIn_app (goodIn_of _ (by decide +kernel)) ggX0_loadAbove_X0_placeOfIndex
set_option maxRecDepth 20000 in
theorem ggX0_mixedLayers_X2_mixed : GoodIn wsX0_mixedLayers wsX2_mixed := goodIn_r _ [6, 7] rfl (by decide +kernel)
set_option maxRecDepth 20000 in
theorem gX0_mixedLayers_X2_mixed_n63 : GoodIn wsX0_mixedLayers (wsX2_mixed) := ggX0_mixedLayers_X2_mixed
set_option maxRecDepth 20000 in
theorem ggX0_mixedLayers_X0_placeOfIndex : GoodIn wsX0_mixedLayers wsX0_placeOfIndex := goodIn_r _ [12, 13, 1, 14, 15, 16, 17, 18, 19, 20, 21, 22, 23, 24] rfl (by decide +kernel)
set_option maxRecDepth 20000 in
theorem gX0_mixedLayers_X0_placeOfIndex : GoodIn wsX0_mixedLayers (wsV RX0 50 RX0 yX0_placeOfIndex wsX0_placeOfIndex) := goodIn_app (goodIn_of _ (by decide +kernel)) ggX0_mixedLayers_X0_placeOfIndex
set_option maxRecDepth 20000 in
theorem ggX1_init_X0_init : GoodIn wsX1_init wsX0_init := goodIn_r _ [19, 20, 2, 3, 21, 22, 23, 24, 77, 78, 79, 80, 81, 82] rfl (by decide +kernel)
set_option maxRecDepth 20000 in
theorem gX1_init_X0_init : GoodIn wsX1_init (wsX0_init) := ggX1_init_X0_init
set_option maxRecDepth 20000 in
theorem ggX1_init_X1_startAnew : GoodIn wsX1_init wsX1_startAnew := goodIn_r _ [29, 15, 8, 16, 30, 31, 32, 33, 34, 35, 14, 36, 37, 38, 39, 40, 41, 42, 28, 43, 4, 5, 44, 45, 46, 47, 22, 23, 48, 49, 50, 51, 52, 53, 54, 55, 56, 57, 58, 59, 60, 61, 62, 63, 6, 64, 65, 66, 67, 68, 69, 70, 71, 72, 73, 74, 75, 76, 77, 78, 79, 80, 81, 82] rfl (by decide +kernel)
set_option maxRecDepth 20000 in
theorem gX1_init_X1_startAnew : GoodIn wsX1_init (wsV RX1 48 RX1 yX1_startAnew wsX1_startAnew) := goodIn_app (goodIn_of _ (by decide +kernel)) ggX1_init_X1_startAnew
set_option maxRecDepth 20000 in
theorem ggX1_startAnew_X0_clear : GoodIn wsX1_startAnew wsX0_clear := goodIn_r _ [11, 12, 13, 14, 58, 59, 60, 61, 62, 63] rfl (by decide +kernel)
set_option maxRecDepth 20000 in
theorem gX1_startAnew_X0_clear : GoodIn wsX1_startAnew (wsV RX1 51 RX0 yX0_clear wsX0_clear) := goodIn_app (goodIn_of _ (by decide +kernel)) ggX1_startAnew_X0_clear
set_option maxRecDepth 20000 in
theorem ggX1_startAnew_X1_pipeVolume : GoodIn wsX1_startAnew wsX1_pipeVolume := goodIn_r _ [19, 20, 21, 45, 46, 47, 48, 49, 50, 51, 52, 53, 54, 55, 56, 57] rfl (by decide +kernel)
set_option maxRecDepth 20000 in
theorem gX1_startAnew_X1_pipeVolume : GoodIn wsX1_startAnew (wsV RX1 54 RX1 yX1_pipeVolume wsX1_pipeVolume) := goodIn_app (goodIn_of _ (by decide +kernel)) ggX1_startAnew_X1_pipeVolume
set_option maxRecDepth 20000 in
theorem ggX1_startAnew_X0_enter : GoodIn wsX1_startAnew wsX0_enter := goodIn_r _ [25, 13, 26, 27, 14, 28, 29, 30, 10, 31, 32, 33, 34, 35, 12, 36, 37, 38, 39, 58, 59, 60, 61, 62, 63] rfl (by decide +kernel)
set_option maxRecDepth 20000 in
theorem gX1_startAnew_X0_enter : GoodIn wsX1_startAnew (wsV RX1 58 RX0 yX0_enter wsX0_enter) := goodIn_app (goodIn_of _ (by decide +kernel)) ggX1_startAnew_X0_enter
set_option maxRecDepth 20000 in
theorem ggX1_startAnew_X1_annulusVolume : GoodIn wsX1_startAnew wsX1_annulusVolume := goodIn_r _ [43, 20, 44, 45, 46, 47, 48, 49, 50, 51, 52, 53, 54, 55, 56, 57] rfl (by decide +kernel)
set_option maxRecDepth 20000 in
theorem gX1_startAnew_X1_annulusVolume : GoodIn wsX1_startAnew (wsV RX1 62 RX1 yX1_annulusVolume wsX1_annulusVolume) := goodIn_app (goodIn_of _ (by decide +kernel)) ggX1_startAnew_X1_annulusVolume
set_option maxRecDepth 20000 in
theorem ggX1_copyFrom_X0_copyFrom : GoodIn wsX1_copyFrom wsX0_copyFrom := goodIn_r _ [18, 19, 20, 21, 22, 23, 24, 17, 25, 26, 27, 28, 29, 30, 31, 32, 33, 34, 35, 36, 37, 38, 39, 40, 41, 42, 43, 57, 58, 59, 60, 61, 62] rfl (by decide +kernel)
set_option maxRecDepth 20000 in
theorem gX1_copyFrom_X0_copyFrom : GoodIn wsX1_copyFrom (wsV RX1 74 RX0 yX0_copyFrom wsX0_copyFrom) := goodIn_app (goodIn_of _ (by decide +kernel)) ggX1_copyFrom_X0_copyFrom
set_option maxRecDepth 20000 in
theorem ggX1_canCirculate_X1_pipeVolume : GoodIn wsX1_canCirculate wsX1_pipeVolume := goodIn_r _ [5, 6, 7, 13, 14, 15, 16, 17, 18, 19, 20, 21, 22, 23, 24, 25] rfl (by decide +kernel)
set_option maxRecDepth 20000 in
theorem gX1_canCirculate_X1_pipeVolume : GoodIn wsX1_canCirculate (wsV RX1 54 RX1 yX1_pipeVolume wsX1_pipeVolume) := goodIn_app (goodIn_of _ (by decide +kernel)) ggX1_canCirculate_X1_pipeVolume
set_option maxRecDepth 20000 in
theorem ggX1_canCirculate_X1_annulusVolume : GoodIn wsX1_canCirculate wsX1_annulusVolume := goodIn_r _ [11, 6, 12, 13, 14, 15, 16, 17, 18, 19, 20, 21, 22, 23, 24, 25] rfl (by decide +kernel)
set_option maxRecDepth 20000 in
theorem gX1_canCirculate_X1_annulusVolume : GoodIn wsX1_canCirculate (wsV RX1 62 RX1 yX1_annulusVolume wsX1_annulusVolume) := goodIn_app (goodIn_of _ (by decide +kernel)) ggX1_canCirculate_X1_annulusVolume
set_option maxRecDepth 20000 in
theorem ggX1_circulate_X0_release : GoodIn wsX1_circulate wsX0_release := goodIn_r _ [7, 8, 9, 10, 11, 6, 12, 13, 14, 15, 16, 17, 18, 19, 20, 21, 22, 23, 24, 25, 26, 27, 28, 55, 56, 57, 58, 59, 60] rfl (by decide +kernel)
set_option maxRecDepth 20000 in
theorem gX1_circulate_X0_release : GoodIn wsX1_circulate (wsV RX1 78 RX0 yX0_release wsX0_release) := goodIn_app (goodIn_of _ (by decide +kernel)) ggX1_circulate_X0_release
set_option maxRecDepth 20000 in
theorem ggX1_circulate_X0_releaseInto : GoodIn wsX1_circulate wsX0_releaseInto := goodIn_r _ [32, 8, 19, 21, 22, 23, 6, 24, 20, 25, 26, 27, 28, 9, 10, 11, 12, 13, 14, 15, 16, 17, 18, 33, 34, 35, 36, 37, 38, 39, 40, 55, 56, 57, 58, 59, 60] rfl (by decide +kernel)
set_option maxRecDepth 20000 in
theorem gX1_circulate_X0_releaseInto : GoodIn wsX1_circulate (wsV RX1 82 RX0 yX0_releaseInto wsX0_releaseInto) := goodIn_app (goodIn_of _ (by decide +kernel)) ggX1_circulate_X0_releaseInto
set_option maxRecDepth 20000 in
theorem ggX1_circulate_X0_enter : GoodIn wsX1_circulate wsX0_enter := goodIn_r _ [36, 8, 13, 19, 18, 37, 38, 39, 6, 40, 21, 22, 23, 24, 20, 25, 26, 27, 28, 55, 56, 57, 58, 59, 60] rfl (by decide +kernel)
set_option maxRecDepth 20000 in
theorem gX1_circulate_X0_enter : GoodIn wsX1_circulate (wsV RX1 58 RX0 yX0_enter wsX0_enter) := goodIn_app (goodIn_of _ (by decide +kernel)) ggX1_circulate_X0_enter
set_option maxRecDepth 20000 in
theorem ggX1_circulateInSteps_X2_portionsFor : GoodIn wsX1_circulateInSteps wsX2_portionsFor := goodIn_r _ [3, 4, 5, 6, 7] rfl (by decide +kernel)
set_option maxRecDepth 20000 in
theorem gX1_circulateInSteps_X2_portionsFor_n86 : GoodIn wsX1_circulateInSteps (wsX2_portionsFor) := ggX1_circulateInSteps_X2_portionsFor
set_option maxRecDepth 20000 in
theorem ggX1_circulateInSteps_X1_circulate : GoodIn wsX1_circulateInSteps wsX1_circulate := goodIn_r _ [12, 13, 14, 15, 16, 17, 18, 19, 20, 21, 22, 23, 24, 25, 26, 27, 6, 28, 29, 30, 31, 32, 33, 34, 35, 36, 37, 38, 39, 40, 41, 42, 43, 44, 45, 46, 47, 48, 49, 50, 51, 52, 104, 105, 106, 107, 108, 109, 110, 111, 112, 113, 114, 115, 116, 117, 118, 119, 120, 121, 122] rfl (by decide +kernel)
set_option maxRecDepth 20000 in
theorem gX1_circulateInSteps_X1_circulate : GoodIn wsX1_circulateInSteps (wsV RX1 90 RX1 yX1_circulate wsX1_circulate) := goodIn_app (goodIn_of _ (by decide +kernel)) ggX1_circulateInSteps_X1_circulate
set_option maxRecDepth 20000 in
theorem ggX1_circulateInSteps_X1_checkShoe : GoodIn wsX1_circulateInSteps wsX1_checkShoe := goodIn_r _ [56, 57, 58, 59, 60, 5, 6, 7, 61, 62, 63, 11, 64, 65, 66, 67, 68, 69, 70, 71, 72, 73, 74, 75, 76, 77, 78, 79, 14, 13, 80, 81, 82, 83, 84, 85, 86, 87, 88, 89, 90, 91, 92, 93, 94, 95, 96, 97, 18, 98, 20, 25, 26, 27, 28, 30, 99, 100, 101, 102, 103, 31, 36, 37, 38, 39, 104, 105, 106, 107, 108, 109, 110, 111, 112, 113, 114, 115, 116, 117, 118, 119, 120, 121, 122] rfl (by decide +kernel)
set_option maxRecDepth 20000 in
theorem gX1_circulateInSteps_X1_checkShoe : GoodIn wsX1_circulateInSteps (wsV RX1 93 RX1 yX1_checkShoe wsX1_checkShoe) := goodIn_app (goodIn_of _ (by decide +kernel)) ggX1_circulateInSteps_X1_checkShoe
set_option maxRecDepth 20000 in
theorem ggX1_letIn_X0_release : GoodIn wsX1_letIn wsX0_release := goodIn_r _ [7, 8, 9, 10, 11, 6, 12, 13, 14, 15, 16, 17, 18, 19, 20, 21, 22, 23, 24, 25, 26, 27, 28, 50, 51, 52, 53, 54, 55] rfl (by decide +kernel)
set_option maxRecDepth 20000 in
theorem gX1_letIn_X0_release : GoodIn wsX1_letIn (wsV RX1 78 RX0 yX0_release wsX0_release) := goodIn_app (goodIn_of _ (by decide +kernel)) ggX1_letIn_X0_release
set_option maxRecDepth 20000 in
theorem ggX1_letIn_X0_enter : GoodIn wsX1_letIn wsX0_enter := goodIn_r _ [32, 8, 13, 19, 18, 33, 34, 35, 6, 36, 21, 22, 23, 24, 20, 25, 26, 27, 28, 50, 51, 52, 53, 54, 55] rfl (by decide +kernel)
set_option maxRecDepth 20000 in
theorem gX1_letIn_X0_enter : GoodIn wsX1_letIn (wsV RX1 58 RX0 yX0_enter wsX0_enter) := goodIn_app (goodIn_of _ (by decide +kernel)) ggX1_letIn_X0_enter
set_option maxRecDepth 20000 in
theorem ggX1_checkShoe_X1_pressureAtShoe : GoodIn wsX1_checkShoe wsX1_pressureAtShoe := goodIn_r _ [12, 13, 14, 15, 16, 11, 17, 18, 4, 5, 6, 7, 19, 20, 21, 22, 23, 24, 25, 26, 27, 28, 29, 30, 31, 32, 33, 34, 35, 36, 37, 38, 39, 40, 41, 42, 43, 44, 45, 46, 47, 48, 49, 50, 51, 52, 53, 54, 55, 56, 57, 58, 59, 60, 61, 62, 63, 64, 65, 66, 67, 68, 69, 70, 71, 72, 73, 74, 75, 76, 77, 78, 79, 80, 81, 82, 83, 84] rfl (by decide +kernel)
set_option maxRecDepth 20000 in
theorem gX1_checkShoe_X1_pressureAtShoe : GoodIn wsX1_checkShoe (wsV RX1 96 RX1 yX1_pressureAtShoe wsX1_pressureAtShoe) := goodIn_app (goodIn_of _ (by decide +kernel)) ggX1_checkShoe_X1_pressureAtShoe
set_option maxRecDepth 20000 in
theorem ggX1_pressureOfWhole_X1_column : GoodIn wsX1_pressureOfWhole wsX1_column := goodIn_r _ [6, 7, 8, 30, 31, 32, 33, 34, 35, 36, 37, 38, 39, 40, 41, 42] rfl (by decide +kernel)
set_option maxRecDepth 20000 in
theorem gX1_pressureOfWhole_X1_column : GoodIn wsX1_pressureOfWhole (wsV RX1 104 RX1 yX1_column wsX1_column) := goodIn_app (goodIn_of _ (by decide +kernel)) ggX1_pressureOfWhole_X1_column
set_option maxRecDepth 20000 in
theorem ggX1_pressureOfWhole_X1_capacity : GoodIn wsX1_pressureOfWhole wsX1_capacity := goodIn_r _ [12, 13, 14, 30, 31, 32, 33, 34, 35, 36, 37, 38, 39, 40, 41, 42] rfl (by decide +kernel)
set_option maxRecDepth 20000 in
theorem gX1_pressureOfWhole_X1_capacity : GoodIn wsX1_pressureOfWhole (wsV RX1 112 RX1 yX1_capacity wsX1_capacity) := goodIn_app (goodIn_of _ (by decide +kernel)) ggX1_pressureOfWhole_X1_capacity
set_option maxRecDepth 20000 in
theorem ggX1_pressureOfWhole_X1_pressureOf : GoodIn wsX1_pressureOfWhole wsX1_pressureOf := goodIn_r _ [17, 18, 19, 20, 21, 22, 23] rfl (by decide +kernel)
set_option maxRecDepth 20000 in
theorem gX1_pressureOfWhole_X1_pressureOf : GoodIn wsX1_pressureOfWhole (va_wsS RX1 116 yX1_pressureOf wsX1_pressureOf) := goodIn_app (goodIn_of _ (by decide +kernel)) ggX1_pressureOfWhole_X1_pressureOf
set_option maxRecDepth 20000 in
theorem ggX1_pressureOfPart_X1_capacity : GoodIn wsX1_pressureOfPart wsX1_capacity := goodIn_r _ [5, 6, 7, 44, 45, 46, 47, 48, 49, 50, 51, 52, 53, 54, 55, 56] rfl (by decide +kernel)
set_option maxRecDepth 20000 in
theorem gX1_pressureOfPart_X1_capacity : GoodIn wsX1_pressureOfPart (wsV RX1 112 RX1 yX1_capacity wsX1_capacity) := goodIn_app (goodIn_of _ (by decide +kernel)) ggX1_pressureOfPart_X1_capacity
set_option maxRecDepth 20000 in
theorem ggX1_pressureOfPart_X1_column : GoodIn wsX1_pressureOfPart wsX1_column := goodIn_r _ [11, 12, 13, 44, 45, 46, 47, 48, 49, 50, 51, 52, 53, 54, 55, 56] rfl (by decide +kernel)
set_option maxRecDepth 20000 in
theorem gX1_pressureOfPart_X1_column : GoodIn wsX1_pressureOfPart (wsV RX1 104 RX1 yX1_column wsX1_column) := goodIn_app (goodIn_of _ (by decide +kernel)) ggX1_pressureOfPart_X1_column
set_option maxRecDepth 20000 in
theorem ggX1_pressureOfPart_X0_loadAbove : GoodIn wsX1_pressureOfPart wsX0_loadAbove := goodIn_r _ [18, 19, 20, 21, 22, 23, 24, 25, 26, 27, 28, 17, 29, 30, 31, 32, 33, 34, 35, 57, 58, 59, 60, 61, 62] rfl (by decide +kernel)
set_option maxRecDepth 20000 in
theorem gX1_pressureOfPart_X0_loadAbove : GoodIn wsX1_pressureOfPart (wsV RX1 120 RX0 yX0_loadAbove wsX0_loadAbove) := goodIn_app (goodIn_of _ (by decide +kernel)) ggX1_pressureOfPart_X0_loadAbove
set_option maxRecDepth 20000 in
theorem ggX1_pressureOfPart_X1_pressureOf : GoodIn wsX1_pressureOfPart wsX1_pressureOf := goodIn_r _ [38, 39, 40, 41, 42, 23, 43] rfl (by decide +kernel)
set_option maxRecDepth 20000 in
theorem gX1_pressureOfPart_X1_pressureOf : GoodIn wsX1_pressureOfPart (va_wsS RX1 116 yX1_pressureOf wsX1_pressureOf) := goodIn_app (goodIn_of _ (by decide +kernel)) ggX1_pressureOfPart_X1_pressureOf
set_option maxRecDepth 20000 in
theorem ggX1_pressureAtPipe_X1_pressureOfWhole : GoodIn wsX1_pressureAtPipe wsX1_pressureOfWhole := goodIn_r _ [10, 11, 12, 13, 14, 9, 15, 16, 17, 18, 19, 20, 21, 22, 23, 24, 25, 26, 27, 28, 2, 3, 4, 5, 42, 43, 44, 45, 46, 47, 29, 30, 31, 32, 33, 34, 35, 36, 37, 38, 39, 40, 41] rfl (by decide +kernel)
set_option maxRecDepth 20000 in
theorem gX1_pressureAtPipe_X1_pressureOfWhole : GoodIn wsX1_pressureAtPipe (wsV RX1 128 RX1 yX1_pressureOfWhole wsX1_pressureOfWhole) := goodIn_app (goodIn_of _ (by decide +kernel)) ggX1_pressureAtPipe_X1_pressureOfWhole
set_option maxRecDepth 20000 in
theorem ggX1_pressureAtCasing_X1_pressureOfWhole : GoodIn wsX1_pressureAtCasing wsX1_pressureOfWhole := goodIn_r _ [10, 11, 12, 13, 14, 9, 15, 16, 17, 18, 19, 20, 21, 22, 23, 24, 25, 26, 27, 28, 2, 3, 4, 5, 42, 43, 44, 45, 46, 47, 29, 30, 31, 32, 33, 34, 35, 36, 37, 38, 39, 40, 41] rfl (by decide +kernel)
set_option maxRecDepth 20000 in
theorem gX1_pressureAtCasing_X1_pressureOfWhole : GoodIn wsX1_pressureAtCasing (wsV RX1 128 RX1 yX1_pressureOfWhole wsX1_pressureOfWhole) := goodIn_app (goodIn_of _ (by decide +kernel)) ggX1_pressureAtCasing_X1_pressureOfWhole
set_option maxRecDepth 20000 in
theorem ggX1_pressureAtStandpipe_X1_pressureAtPipe : GoodIn wsX1_pressureAtStandpipe wsX1_pressureAtPipe := goodIn_r _ [6, 7, 8, 9, 10, 11, 12, 13, 14, 5, 15, 16, 17, 18, 19, 20, 21, 22, 23, 24, 25, 26, 27, 28, 29, 30, 31, 32, 33, 34, 35, 36, 37, 38, 39, 40, 41, 42, 43, 44, 45, 46, 47, 48, 49, 50, 51, 52] rfl (by decide +kernel)
set_option maxRecDepth 20000 in
theorem gX1_pressureAtStandpipe_X1_pressureAtPipe : GoodIn wsX1_pressureAtStandpipe (wsV RX1 131 RX1 yX1_pressureAtPipe wsX1_pressureAtPipe) := goodIn_app (goodIn_of _ (by decide +kernel)) ggX1_pressureAtStandpipe_X1_pressureAtPipe
set_option maxRecDepth 20000 in
theorem ggX1_pressureAtShoe_X1_pressureAtCasing : GoodIn wsX1_pressureAtShoe wsX1_pressureAtCasing := goodIn_r _ [6, 7, 8, 9, 10, 11, 12, 13, 14, 5, 15, 16, 17, 18, 19, 20, 21, 22, 23, 24, 25, 26, 27, 28, 29, 30, 31, 32, 33, 59, 60, 61, 62, 63, 64, 65, 66, 67, 68, 69, 70, 71, 72, 73, 74, 75, 76, 77] rfl (by decide +kernel)
set_option maxRecDepth 20000 in
theorem gX1_pressureAtShoe_X1_pressureAtCasing : GoodIn wsX1_pressureAtShoe (wsV RX1 134 RX1 yX1_pressureAtCasing wsX1_pressureAtCasing) := goodIn_app (goodIn_of _ (by decide +kernel)) ggX1_pressureAtShoe_X1_pressureAtCasing
set_option maxRecDepth 20000 in
theorem ggX1_pressureAtShoe_X1_pressureOfPart : GoodIn wsX1_pressureAtShoe wsX1_pressureOfPart := goodIn_r _ [37, 23, 24, 25, 5, 26, 27, 28, 17, 18, 19, 20, 21, 22, 38, 39, 40, 41, 42, 43, 44, 45, 46, 10, 47, 48, 49, 50, 51, 52, 53, 54, 55, 56, 57, 58, 29, 30, 31, 32, 33, 8, 9, 11, 59, 60, 61, 62, 63, 64, 65, 66, 67, 68, 69, 70, 71, 72, 73, 74, 75, 76, 77] rfl (by decide +kernel)
set_option maxRecDepth 20000 in
theorem gX1_pressureAtShoe_X1_pressureOfPart : GoodIn wsX1_pressureAtShoe (wsV RX1 137 RX1 yX1_pressureOfPart wsX1_pressureOfPart) := goodIn_app (goodIn_of _ (by decide +kernel)) ggX1_pressureAtShoe_X1_pressureOfPart
set_option maxRecDepth 20000 in
theorem ggX1_mixedSettings_X2_mixed : GoodIn wsX1_mixedSettings wsX2_mixed := goodIn_r _ [11, 12] rfl (by decide +kernel)
set_option maxRecDepth 20000 in
theorem gX1_mixedSettings_X2_mixed_n145 : GoodIn wsX1_mixedSettings (wsX2_mixed) := ggX1_mixedSettings_X2_mixed
set_option maxRecDepth 20000 in
theorem ggX1_mixedReadings_X1_pressureAtPipe : GoodIn wsX1_mixedReadings wsX1_pressureAtPipe := goodIn_r _ [8, 9, 10, 11, 12, 13, 14, 15, 16, 7, 17, 18, 19, 20, 21, 22, 23, 24, 25, 26, 27, 28, 29, 30, 31, 32, 33, 34, 35, 79, 80, 81, 82, 83, 84, 85, 86, 87, 88, 89, 90, 91, 92, 93, 94, 95, 96, 97] rfl (by decide +kernel)
set_option maxRecDepth 20000 in
theorem gX1_mixedReadings_X1_pressureAtPipe : GoodIn wsX1_mixedReadings (wsV RX1 131 RX1 yX1_pressureAtPipe wsX1_pressureAtPipe) := goodIn_app (goodIn_of _ (by decide +kernel)) ggX1_mixedReadings_X1_pressureAtPipe
set_option maxRecDepth 20000 in
theorem ggX1_mixedReadings_X2_mixed : GoodIn wsX1_mixedReadings wsX2_mixed := goodIn_r _ [38, 39] rfl (by decide +kernel)
set_option maxRecDepth 20000 in
theorem gX1_mixedReadings_X2_mixed_n145 : GoodIn wsX1_mixedReadings (wsX2_mixed) := ggX1_mixedReadings_X2_mixed
set_option maxRecDepth 20000 in
theorem ggX1_mixedReadings_X1_pressureAtCasing : GoodIn wsX1_mixedReadings wsX1_pressureAtCasing := goodIn_r _ [43, 9, 10, 11, 12, 13, 14, 15, 16, 7, 17, 18, 19, 20, 21, 22, 23, 24, 25, 26, 27, 28, 29, 30, 31, 32, 33, 34, 35, 79, 80, 81, 82, 83, 84, 85, 86, 87, 88, 89, 90, 91, 92, 93, 94, 95, 96, 97] rfl (by decide +kernel)
set_option maxRecDepth 20000 in
theorem gX1_mixedReadings_X1_pressureAtCasing : GoodIn wsX1_mixedReadings (wsV RX1 134 RX1 yX1_pressureAtCasing wsX1_pressureAtCasing) := goodIn_app (goodIn_of _ (by decide +kernel)) ggX1_mixedReadings_X1_pressureAtCasing
set_option maxRecDepth 20000 in
theorem ggX1_mixedReadings_X1_pressureAtStandpipe : GoodIn wsX1_mixedReadings wsX1_pressureAtStandpipe := goodIn_r _ [47, 48, 4, 5, 6, 7, 8, 9, 10, 11, 12, 13, 14, 15, 16, 17, 18, 19, 20, 21, 22, 23, 24, 25, 26, 27, 28, 29, 30, 31, 32, 33, 34, 35, 79, 80, 81, 82, 83, 84, 85, 86, 87, 88, 89, 90, 91, 92, 93, 94, 95, 96, 97] rfl (by decide +kernel)
set_option maxRecDepth 20000 in
theorem gX1_mixedReadings_X1_pressureAtStandpipe : GoodIn wsX1_mixedReadings (wsV RX1 148 RX1 yX1_pressureAtStandpipe wsX1_pressureAtStandpipe) := goodIn_app (goodIn_of _ (by decide +kernel)) ggX1_mixedReadings_X1_pressureAtStandpipe
set_option maxRecDepth 20000 in
theorem ggX1_mixedReadings_X1_pressureAtShoe : GoodIn wsX1_mixedReadings wsX1_pressureAtShoe := goodIn_r _ [52, 53, 40, 41, 42, 7, 43, 9, 10, 11, 12, 13, 14, 15, 16, 17, 18, 19, 20, 21, 22, 23, 24, 25, 26, 27, 28, 29, 30, 31, 32, 33, 34, 35, 54, 55, 56, 57, 58, 59, 60, 61, 62, 63, 64, 65, 66, 67, 68, 69, 70, 71, 72, 73, 74, 75, 76, 77, 78, 79, 80, 81, 82, 83, 84, 85, 86, 87, 88, 89, 90, 91, 92, 93, 94, 95, 96, 97] rfl (by decide +kernel)
set_option maxRecDepth 20000 in
theorem gX1_mixedReadings_X1_pressureAtShoe : GoodIn wsX1_mixedReadings (wsV RX1 96 RX1 yX1_pressureAtShoe wsX1_pressureAtShoe) := goodIn_app (goodIn_of _ (by decide +kernel)) ggX1_mixedReadings_X1_pressureAtShoe
set_option maxRecDepth 20000 in
theorem ggX2_init_X1_init : GoodIn wsX2_init wsX1_init := goodIn_r _ [15, 16, 2, 3, 17, 18, 19, 20, 21, 22, 23, 24, 25, 26, 27, 28, 29, 30, 31, 32, 33, 11, 34, 35, 36, 37, 38, 39, 6, 40, 41, 42, 43, 44, 45, 46, 47, 48, 49, 50, 51, 52, 53, 54, 55, 56, 57, 58, 59, 60, 61, 62, 63, 64, 65, 66, 67, 68, 69, 70, 71, 72, 73, 74, 75, 76, 77, 78, 79, 80, 81, 82, 83, 84, 85, 86, 87, 93, 94, 95, 96, 97, 98] rfl (by decide +kernel)
set_option maxRecDepth 20000 in
theorem gX2_init_X1_init : GoodIn wsX2_init (wsX1_init) := ggX2_init_X1_init
set_option maxRecDepth 20000 in
theorem ggX2_setGeometry_X2_within : GoodIn wsX2_setGeometry wsX2_within := goodIn_r _ [9] rfl (by decide +kernel)
set_option maxRecDepth 20000 in
theorem gX2_setGeometry_X2_within : GoodIn wsX2_setGeometry (va_wsS RX2 31 yX2_within wsX2_within) := goodIn_app (goodIn_of _ (by decide +kernel)) ggX2_setGeometry_X2_within
set_option maxRecDepth 20000 in
theorem ggX2_setGeometry_X2_refuse : GoodIn wsX2_setGeometry wsX2_refuse := goodIn_r _ [13, 14, 6, 7, 8, 9, 89, 90, 91, 92, 93] rfl (by decide +kernel)
set_option maxRecDepth 20000 in
theorem gX2_setGeometry_X2_refuse : GoodIn wsX2_setGeometry (wsV RX2 35 RX2 yX2_refuse wsX2_refuse) := goodIn_app (goodIn_of _ (by decide +kernel)) ggX2_setGeometry_X2_refuse
set_option maxRecDepth 20000 in
theorem ggX2_setGeometry_X2_save : GoodIn wsX2_setGeometry wsX2_save := goodIn_r _ [18, 19, 20, 1, 21, 22, 23, 8, 24, 25, 26, 27, 28, 29, 30, 31, 32, 33, 34, 35, 36, 37, 38, 39, 40, 41, 42, 43, 44, 45, 46, 47, 48, 49, 50, 51, 52, 53, 54, 55, 56, 57, 58, 59, 60, 61, 62, 63, 64, 65, 66, 67, 68, 69, 70, 71, 72, 89, 90, 91, 92, 93, 94, 95, 96, 97, 98, 99, 100, 101, 102, 103, 104, 105, 106, 107, 108, 109, 110, 111, 112] rfl (by decide +kernel)
set_option maxRecDepth 20000 in
theorem gX2_setGeometry_X2_save : GoodIn wsX2_setGeometry (wsV RX2 39 RX2 yX2_save wsX2_save) := goodIn_app (goodIn_of _ (by decide +kernel)) ggX2_setGeometry_X2_save
set_option maxRecDepth 20000 in
theorem ggX2_setGeometry_X1_startAnew : GoodIn wsX2_setGeometry wsX1_startAnew := goodIn_r _ [76, 41, 34, 42, 38, 39, 40, 77, 52, 53, 46, 54, 55, 48, 56, 78, 79, 80, 28, 81, 30, 31, 82, 66, 67, 68, 49, 50, 69, 70, 71, 72, 57, 58, 59, 60, 61, 62, 63, 64, 83, 84, 85, 86, 32, 94, 95, 96, 97, 98, 99, 100, 101, 102, 103, 104, 105, 106, 107, 108, 109, 110, 111, 112] rfl (by decide +kernel)
set_option maxRecDepth 20000 in
theorem gX2_setGeometry_X1_startAnew : GoodIn wsX2_setGeometry (wsV RX2 54 RX1 yX1_startAnew wsX1_startAnew) := goodIn_app (goodIn_of _ (by decide +kernel)) ggX2_setGeometry_X1_startAnew
set_option maxRecDepth 20000 in
theorem ggX2_setGeometry_X1_pipeVolume : GoodIn wsX2_setGeometry wsX1_pipeVolume := goodIn_r _ [81, 30, 31, 94, 95, 96, 97, 98, 99, 100, 101, 102, 103, 104, 105, 106] rfl (by decide +kernel)
set_option maxRecDepth 20000 in
theorem gX2_setGeometry_X1_pipeVolume : GoodIn wsX2_setGeometry (wsV RX2 57 RX1 yX1_pipeVolume wsX1_pipeVolume) := goodIn_app (goodIn_of _ (by decide +kernel)) ggX2_setGeometry_X1_pipeVolume
set_option maxRecDepth 20000 in
theorem ggX2_setGeometry_X1_annulusVolume : GoodIn wsX2_setGeometry wsX1_annulusVolume := goodIn_r _ [86, 30, 32, 94, 95, 96, 97, 98, 99, 100, 101, 102, 103, 104, 105, 106] rfl (by decide +kernel)
set_option maxRecDepth 20000 in
theorem gX2_setGeometry_X1_annulusVolume : GoodIn wsX2_setGeometry (wsV RX2 61 RX1 yX1_annulusVolume wsX1_annulusVolume) := goodIn_app (goodIn_of _ (by decide +kernel)) ggX2_setGeometry_X1_annulusVolume
set_option maxRecDepth 20000 in
theorem ggX2_setMud_X2_within : GoodIn wsX2_setMud wsX2_within := goodIn_r _ [6] rfl (by decide +kernel)
set_option maxRecDepth 20000 in
theorem gX2_setMud_X2_within : GoodIn wsX2_setMud (va_wsS RX2 31 yX2_within wsX2_within) := goodIn_app (goodIn_of _ (by decide +kernel)) ggX2_setMud_X2_within
set_option maxRecDepth 20000 in
theorem ggX2_setMud_X2_refuse : GoodIn wsX2_setMud wsX2_refuse := goodIn_r _ [10, 11, 3, 4, 5, 6, 70, 71, 72, 73, 74] rfl (by decide +kernel)
set_option maxRecDepth 20000 in
theorem gX2_setMud_X2_refuse : GoodIn wsX2_setMud (wsV RX2 35 RX2 yX2_refuse wsX2_refuse) := goodIn_app (goodIn_of _ (by decide +kernel)) ggX2_setMud_X2_refuse
set_option maxRecDepth 20000 in
theorem ggX2_setMud_X2_save : GoodIn wsX2_setMud wsX2_save := goodIn_r _ [15, 16, 17, 1, 18, 19, 20, 5, 21, 22, 23, 24, 25, 26, 27, 28, 29, 30, 31, 32, 33, 34, 35, 36, 37, 38, 39, 40, 41, 42, 43, 44, 45, 46, 47, 48, 49, 50, 51, 52, 53, 54, 55, 56, 57, 58, 59, 60, 61, 62, 63, 64, 65, 66, 67, 68, 69, 70, 71, 72, 73, 74, 75, 76, 77, 78, 79, 80, 81, 82, 83, 84, 85, 86, 87, 88, 89, 90, 91, 92, 93] rfl (by decide +kernel)
set_option maxRecDepth 20000 in
theorem gX2_setMud_X2_save : GoodIn wsX2_setMud (wsV RX2 39 RX2 yX2_save wsX2_save) := goodIn_app (goodIn_of _ (by decide +kernel)) ggX2_setMud_X2_save
set_option maxRecDepth 20000 in
theorem ggX2_setFormation_X2_within : GoodIn wsX2_setFormation wsX2_within := goodIn_r _ [7] rfl (by decide +kernel)
set_option maxRecDepth 20000 in
theorem gX2_setFormation_X2_within : GoodIn wsX2_setFormation (va_wsS RX2 31 yX2_within wsX2_within) := goodIn_app (goodIn_of _ (by decide +kernel)) ggX2_setFormation_X2_within
set_option maxRecDepth 20000 in
theorem ggX2_setFormation_X2_refuse : GoodIn wsX2_setFormation wsX2_refuse := goodIn_r _ [11, 12, 4, 5, 6, 7, 71, 72, 73, 74, 75] rfl (by decide +kernel)
set_option maxRecDepth 20000 in
theorem gX2_setFormation_X2_refuse : GoodIn wsX2_setFormation (wsV RX2 35 RX2 yX2_refuse wsX2_refuse) := goodIn_app (goodIn_of _ (by decide +kernel)) ggX2_setFormation_X2_refuse
set_option maxRecDepth 20000 in
theorem ggX2_setFormation_X2_save : GoodIn wsX2_setFormation wsX2_save := goodIn_r _ [16, 17, 18, 2, 19, 20, 21, 6, 22, 23, 24, 25, 26, 27, 28, 29, 30, 31, 32, 33, 34, 35, 36, 37, 38, 39, 40, 41, 42, 43, 44, 45, 46, 47, 48, 49, 50, 51, 52, 53, 54, 55, 56, 57, 58, 59, 60, 61, 62, 63, 64, 65, 66, 67, 68, 69, 70, 71, 72, 73, 74, 75, 76, 77, 78, 79, 80, 81, 82, 83, 84, 85, 86, 87, 88, 89, 90, 91, 92, 93, 94] rfl (by decide +kernel)
set_option maxRecDepth 20000 in
theorem gX2_setFormation_X2_save : GoodIn wsX2_setFormation (wsV RX2 39 RX2 yX2_save wsX2_save) := goodIn_app (goodIn_of _ (by decide +kernel)) ggX2_setFormation_X2_save
set_option maxRecDepth 20000 in
theorem ggX2_setSlowPump_X2_within : GoodIn wsX2_setSlowPump wsX2_within := goodIn_r _ [6] rfl (by decide +kernel)
set_option maxRecDepth 20000 in
theorem gX2_setSlowPump_X2_within : GoodIn wsX2_setSlowPump (va_wsS RX2 31 yX2_within wsX2_within) := goodIn_app (goodIn_of _ (by decide +kernel)) ggX2_setSlowPump_X2_within
set_option maxRecDepth 20000 in
theorem ggX2_setSlowPump_X2_refuse : GoodIn wsX2_setSlowPump wsX2_refuse := goodIn_r _ [10, 11, 3, 4, 5, 6, 70, 71, 72, 73, 74] rfl (by decide +kernel)
set_option maxRecDepth 20000 in
theorem gX2_setSlowPump_X2_refuse : GoodIn wsX2_setSlowPump (wsV RX2 35 RX2 yX2_refuse wsX2_refuse) := goodIn_app (goodIn_of _ (by decide +kernel)) ggX2_setSlowPump_X2_refuse
set_option maxRecDepth 20000 in
theorem ggX2_setSlowPump_X2_save : GoodIn wsX2_setSlowPump wsX2_save := goodIn_r _ [15, 16, 17, 1, 18, 19, 20, 5, 21, 22, 23, 24, 25, 26, 27, 28, 29, 30, 31, 32, 33, 34, 35, 36, 37, 38, 39, 40, 41, 42, 43, 44, 45, 46, 47, 48, 49, 50, 51, 52, 53, 54, 55, 56, 57, 58, 59, 60, 61, 62, 63, 64, 65, 66, 67, 68, 69, 70, 71, 72, 73, 74, 75, 76, 77, 78, 79, 80, 81, 82, 83, 84, 85, 86, 87, 88, 89, 90, 91, 92, 93] rfl (by decide +kernel)
set_option maxRecDepth 20000 in
theorem gX2_setSlowPump_X2_save : GoodIn wsX2_setSlowPump (wsV RX2 39 RX2 yX2_save wsX2_save) := goodIn_app (goodIn_of _ (by decide +kernel)) ggX2_setSlowPump_X2_save
set_option maxRecDepth 20000 in
theorem ggX2_setFracture_X2_within : GoodIn wsX2_setFracture wsX2_within := goodIn_r _ [7] rfl (by decide +kernel)
set_option maxRecDepth 20000 in
theorem gX2_setFracture_X2_within : GoodIn wsX2_setFracture (va_wsS RX2 31 yX2_within wsX2_within) := goodIn_app (goodIn_of _ (by decide +kernel)) ggX2_setFracture_X2_within
set_option maxRecDepth 20000 in
theorem ggX2_setFracture_X2_refuse : GoodIn wsX2_setFracture wsX2_refuse := goodIn_r _ [11, 12, 4, 5, 6, 7, 71, 72, 73, 74, 75] rfl (by decide +kernel)
set_option maxRecDepth 20000 in
theorem gX2_setFracture_X2_refuse : GoodIn wsX2_setFracture (wsV RX2 35 RX2 yX2_refuse wsX2_refuse) := goodIn_app (goodIn_of _ (by decide +kernel)) ggX2_setFracture_X2_refuse
set_option maxRecDepth 20000 in
theorem ggX2_setFracture_X2_save : GoodIn wsX2_setFracture wsX2_save := goodIn_r _ [16, 17, 18, 2, 19, 20, 21, 6, 22, 23, 24, 25, 26, 27, 28, 29, 30, 31, 32, 33, 34, 35, 36, 37, 38, 39, 40, 41, 42, 43, 44, 45, 46, 47, 48, 49, 50, 51, 52, 53, 54, 55, 56, 57, 58, 59, 60, 61, 62, 63, 64, 65, 66, 67, 68, 69, 70, 71, 72, 73, 74, 75, 76, 77, 78, 79, 80, 81, 82, 83, 84, 85, 86, 87, 88, 89, 90, 91, 92, 93, 94] rfl (by decide +kernel)
set_option maxRecDepth 20000 in
theorem gX2_setFracture_X2_save : GoodIn wsX2_setFracture (wsV RX2 39 RX2 yX2_save wsX2_save) := goodIn_app (goodIn_of _ (by decide +kernel)) ggX2_setFracture_X2_save
set_option maxRecDepth 20000 in
theorem ggX2_pump_X2_refuse : GoodIn wsX2_pump wsX2_refuse := goodIn_r _ [7, 8, 9, 10, 6, 11, 150, 151, 152, 153, 154] rfl (by decide +kernel)
set_option maxRecDepth 20000 in
theorem gX2_pump_X2_refuse : GoodIn wsX2_pump (wsV RX2 35 RX2 yX2_refuse wsX2_refuse) := goodIn_app (goodIn_of _ (by decide +kernel)) ggX2_pump_X2_refuse
set_option maxRecDepth 20000 in
theorem ggX2_pump_X1_canCirculate : GoodIn wsX2_pump wsX1_canCirculate := goodIn_r _ [16, 17, 18, 19, 15, 20, 21, 22, 23, 24, 25, 26, 27, 155, 156, 157, 158, 159, 160, 161, 162, 163, 164, 165, 166, 167] rfl (by decide +kernel)
set_option maxRecDepth 20000 in
theorem gX2_pump_X1_canCirculate : GoodIn wsX2_pump (wsV RX2 77 RX1 yX1_canCirculate wsX1_canCirculate) := goodIn_app (goodIn_of _ (by decide +kernel)) ggX2_pump_X1_canCirculate
set_option maxRecDepth 20000 in
theorem ggX2_pump_X2_save : GoodIn wsX2_pump wsX2_save := goodIn_r _ [31, 32, 33, 1, 34, 35, 36, 6, 37, 38, 39, 40, 15, 41, 21, 22, 27, 42, 43, 44, 45, 46, 47, 48, 49, 50, 51, 52, 53, 54, 55, 56, 57, 58, 59, 60, 61, 62, 63, 64, 65, 66, 67, 68, 69, 70, 71, 72, 73, 74, 75, 76, 77, 78, 79, 80, 81, 150, 151, 152, 153, 154, 155, 156, 157, 158, 159, 160, 161, 162, 163, 164, 165, 166, 167, 168, 169, 170, 171, 172, 173] rfl (by decide +kernel)
set_option maxRecDepth 20000 in
theorem gX2_pump_X2_save : GoodIn wsX2_pump (wsV RX2 39 RX2 yX2_save wsX2_save) := goodIn_app (goodIn_of _ (by decide +kernel)) ggX2_pump_X2_save
set_option maxRecDepth 20000 in
theorem ggX2_pump_X1_circulate : GoodIn wsX2_pump wsX1_circulate := goodIn_r _ [85, 51, 50, 86, 87, 88, 55, 89, 57, 90, 91, 92, 93, 58, 94, 95, 96, 97, 65, 59, 64, 66, 67, 68, 69, 70, 71, 72, 73, 98, 99, 100, 101, 74, 75, 76, 77, 78, 79, 80, 81, 102, 155, 156, 157, 158, 159, 160, 161, 162, 163, 164, 165, 166, 167, 168, 169, 170, 171, 172, 173] rfl (by decide +kernel)
set_option maxRecDepth 20000 in
theorem gX2_pump_X1_circulate : GoodIn wsX2_pump (wsV RX2 81 RX1 yX1_circulate wsX1_circulate) := goodIn_app (goodIn_of _ (by decide +kernel)) ggX2_pump_X1_circulate
set_option maxRecDepth 20000 in
theorem ggX2_pump_X1_checkShoe : GoodIn wsX2_pump wsX1_checkShoe := goodIn_r _ [106, 46, 48, 49, 107, 108, 96, 109, 110, 111, 112, 15, 113, 42, 114, 115, 116, 117, 44, 118, 119, 120, 121, 122, 123, 124, 125, 126, 50, 51, 127, 128, 129, 130, 22, 27, 131, 132, 133, 134, 135, 136, 137, 138, 139, 140, 141, 142, 55, 143, 57, 58, 94, 95, 97, 59, 144, 145, 146, 147, 148, 64, 70, 71, 72, 73, 155, 156, 157, 158, 159, 160, 161, 162, 163, 164, 165, 166, 167, 168, 169, 170, 171, 172, 173] rfl (by decide +kernel)
set_option maxRecDepth 20000 in
theorem gX2_pump_X1_checkShoe : GoodIn wsX2_pump (wsV RX2 85 RX1 yX1_checkShoe wsX1_checkShoe) := goodIn_app (goodIn_of _ (by decide +kernel)) ggX2_pump_X1_checkShoe
set_option maxRecDepth 20000 in
theorem ggX2_pump_X1_pressureAtCasing : GoodIn wsX2_pump wsX1_pressureAtCasing := goodIn_r _ [117, 44, 107, 108, 96, 109, 118, 119, 120, 15, 121, 122, 123, 124, 125, 126, 50, 51, 127, 128, 129, 130, 22, 27, 131, 132, 133, 134, 135, 155, 156, 157, 158, 159, 160, 161, 162, 163, 164, 165, 166, 167, 168, 169, 170, 171, 172, 173] rfl (by decide +kernel)
set_option maxRecDepth 20000 in
theorem gX2_pump_X1_pressureAtCasing : GoodIn wsX2_pump (wsV RX2 88 RX1 yX1_pressureAtCasing wsX1_pressureAtCasing) := goodIn_app (goodIn_of _ (by decide +kernel)) ggX2_pump_X1_pressureAtCasing
set_option maxRecDepth 20000 in
theorem ggX2_influx_X2_within : GoodIn wsX2_influx wsX2_within := goodIn_r _ [5] rfl (by decide +kernel)
set_option maxRecDepth 20000 in
theorem gX2_influx_X2_within : GoodIn wsX2_influx (va_wsS RX2 31 yX2_within wsX2_within) := goodIn_app (goodIn_of _ (by decide +kernel)) ggX2_influx_X2_within
set_option maxRecDepth 20000 in
theorem ggX2_influx_X2_refuse : GoodIn wsX2_influx wsX2_refuse := goodIn_r _ [9, 10, 2, 3, 4, 5, 137, 138, 139, 140, 141] rfl (by decide +kernel)
set_option maxRecDepth 20000 in
theorem gX2_influx_X2_refuse : GoodIn wsX2_influx (wsV RX2 35 RX2 yX2_refuse wsX2_refuse) := goodIn_app (goodIn_of _ (by decide +kernel)) ggX2_influx_X2_refuse
set_option maxRecDepth 20000 in
theorem ggX2_influx_X1_annulusVolume : GoodIn wsX2_influx wsX1_annulusVolume := goodIn_r _ [15, 16, 17, 142, 143, 144, 145, 146, 147, 148, 149, 150, 151, 152, 153, 154] rfl (by decide +kernel)
set_option maxRecDepth 20000 in
theorem gX2_influx_X1_annulusVolume : GoodIn wsX2_influx (wsV RX2 61 RX1 yX1_annulusVolume wsX1_annulusVolume) := goodIn_app (goodIn_of _ (by decide +kernel)) ggX2_influx_X1_annulusVolume
set_option maxRecDepth 20000 in
theorem ggX2_influx_X2_save : GoodIn wsX2_influx wsX2_save := goodIn_r _ [21, 22, 23, 1, 24, 25, 26, 4, 27, 28, 29, 30, 14, 31, 16, 32, 17, 33, 34, 35, 36, 37, 38, 39, 40, 41, 42, 43, 44, 45, 46, 47, 48, 49, 50, 51, 52, 53, 54, 55, 56, 57, 58, 59, 60, 61, 62, 63, 64, 65, 66, 67, 68, 69, 70, 71, 72, 137, 138, 139, 140, 141, 142, 143, 144, 145, 146, 147, 148, 149, 150, 151, 152, 153, 154, 155, 156, 157, 158, 159, 160] rfl (by decide +kernel)
set_option maxRecDepth 20000 in
theorem gX2_influx_X2_save : GoodIn wsX2_influx (wsV RX2 39 RX2 yX2_save wsX2_save) := goodIn_app (goodIn_of _ (by decide +kernel)) ggX2_influx_X2_save
set_option maxRecDepth 20000 in
theorem ggX2_influx_X1_letIn : GoodIn wsX2_influx wsX1_letIn := goodIn_r _ [76, 42, 38, 77, 78, 79, 46, 80, 48, 81, 82, 83, 84, 49, 85, 86, 87, 88, 56, 50, 55, 57, 58, 59, 60, 61, 62, 63, 64, 89, 66, 67, 68, 69, 70, 71, 72, 142, 143, 144, 145, 146, 147, 148, 149, 150, 151, 152, 153, 154, 155, 156, 157, 158, 159, 160] rfl (by decide +kernel)
set_option maxRecDepth 20000 in
theorem gX2_influx_X1_letIn : GoodIn wsX2_influx (wsV RX2 91 RX1 yX1_letIn wsX1_letIn) := goodIn_app (goodIn_of _ (by decide +kernel)) ggX2_influx_X1_letIn
set_option maxRecDepth 20000 in
theorem ggX2_influx_X1_checkShoe : GoodIn wsX2_influx wsX1_checkShoe := goodIn_r _ [93, 37, 39, 40, 94, 95, 87, 96, 97, 98, 99, 14, 100, 33, 101, 102, 103, 104, 35, 105, 106, 107, 108, 109, 110, 111, 112, 113, 41, 42, 114, 115, 116, 117, 32, 17, 118, 119, 120, 121, 122, 123, 124, 125, 126, 127, 128, 129, 46, 130, 48, 49, 85, 86, 88, 50, 131, 132, 133, 134, 135, 55, 61, 62, 63, 64, 142, 143, 144, 145, 146, 147, 148, 149, 150, 151, 152, 153, 154, 155, 156, 157, 158, 159, 160] rfl (by decide +kernel)
set_option maxRecDepth 20000 in
theorem gX2_influx_X1_checkShoe : GoodIn wsX2_influx (wsV RX2 85 RX1 yX1_checkShoe wsX1_checkShoe) := goodIn_app (goodIn_of _ (by decide +kernel)) ggX2_influx_X1_checkShoe
set_option maxRecDepth 20000 in
theorem ggX2_influx_X1_pressureAtCasing : GoodIn wsX2_influx wsX1_pressureAtCasing := goodIn_r _ [104, 35, 94, 95, 87, 96, 105, 106, 107, 14, 108, 109, 110, 111, 112, 113, 41, 42, 114, 115, 116, 117, 32, 17, 118, 119, 120, 121, 122, 142, 143, 144, 145, 146, 147, 148, 149, 150, 151, 152, 153, 154, 155, 156, 157, 158, 159, 160] rfl (by decide +kernel)
set_option maxRecDepth 20000 in
theorem gX2_influx_X1_pressureAtCasing : GoodIn wsX2_influx (wsV RX2 88 RX1 yX1_pressureAtCasing wsX1_pressureAtCasing) := goodIn_app (goodIn_of _ (by decide +kernel)) ggX2_influx_X1_pressureAtCasing
set_option maxRecDepth 20000 in
theorem ggX2_hydrostatic_X2_within : GoodIn wsX2_hydrostatic wsX2_within := goodIn_r _ [5] rfl (by decide +kernel)
set_option maxRecDepth 20000 in
theorem gX2_hydrostatic_X2_within : GoodIn wsX2_hydrostatic (va_wsS RX2 31 yX2_within wsX2_within) := goodIn_app (goodIn_of _ (by decide +kernel)) ggX2_hydrostatic_X2_within
set_option maxRecDepth 20000 in
theorem ggX2_hydrostatic_X2_refuse : GoodIn wsX2_hydrostatic wsX2_refuse := goodIn_r _ [9, 10, 2, 3, 4, 5, 38, 39, 40, 41, 42] rfl (by decide +kernel)
set_option maxRecDepth 20000 in
theorem gX2_hydrostatic_X2_refuse : GoodIn wsX2_hydrostatic (wsV RX2 35 RX2 yX2_refuse wsX2_refuse) := goodIn_app (goodIn_of _ (by decide +kernel)) ggX2_hydrostatic_X2_refuse
set_option maxRecDepth 20000 in
theorem ggX2_hydrostatic_X1_pressureOfWhole : GoodIn wsX2_hydrostatic wsX1_pressureOfWhole := goodIn_r _ [15, 16, 17, 18, 19, 14, 20, 21, 22, 23, 24, 25, 26, 27, 28, 29, 30, 31, 32, 33, 34, 35, 36, 37, 43, 44, 45, 46, 47, 48, 49, 50, 51, 52, 53, 54, 55, 56, 57, 58, 59, 60, 61] rfl (by decide +kernel)
set_option maxRecDepth 20000 in
theorem gX2_hydrostatic_X1_pressureOfWhole : GoodIn wsX2_hydrostatic (wsV RX2 94 RX1 yX1_pressureOfWhole wsX1_pressureOfWhole) := goodIn_app (goodIn_of _ (by decide +kernel)) ggX2_hydrostatic_X1_pressureOfWhole
set_option maxRecDepth 20000 in
theorem ggX2_hydrostaticAbove_X2_within : GoodIn wsX2_hydrostaticAbove wsX2_within := goodIn_r _ [6] rfl (by decide +kernel)
set_option maxRecDepth 20000 in
theorem gX2_hydrostaticAbove_X2_within : GoodIn wsX2_hydrostaticAbove (va_wsS RX2 31 yX2_within wsX2_within) := goodIn_app (goodIn_of _ (by decide +kernel)) ggX2_hydrostaticAbove_X2_within
set_option maxRecDepth 20000 in
theorem ggX2_hydrostaticAbove_X2_refuse : GoodIn wsX2_hydrostaticAbove wsX2_refuse := goodIn_r _ [10, 11, 3, 4, 5, 6, 59, 60, 61, 62, 63] rfl (by decide +kernel)
set_option maxRecDepth 20000 in
theorem gX2_hydrostaticAbove_X2_refuse : GoodIn wsX2_hydrostaticAbove (wsV RX2 35 RX2 yX2_refuse wsX2_refuse) := goodIn_app (goodIn_of _ (by decide +kernel)) ggX2_hydrostaticAbove_X2_refuse
set_option maxRecDepth 20000 in
theorem ggX2_hydrostaticAbove_X1_pressureOfPart : GoodIn wsX2_hydrostaticAbove wsX1_pressureOfPart := goodIn_r _ [16, 17, 18, 19, 15, 20, 21, 22, 23, 24, 25, 26, 27, 28, 29, 30, 31, 32, 33, 34, 35, 36, 37, 38, 39, 40, 41, 42, 43, 44, 45, 46, 47, 48, 49, 50, 51, 52, 53, 54, 55, 56, 57, 58, 64, 65, 66, 67, 68, 69, 70, 71, 72, 73, 74, 75, 76, 77, 78, 79, 80, 81, 82] rfl (by decide +kernel)
set_option maxRecDepth 20000 in
theorem gX2_hydrostaticAbove_X1_pressureOfPart : GoodIn wsX2_hydrostaticAbove (wsV RX2 97 RX1 yX1_pressureOfPart wsX1_pressureOfPart) := goodIn_app (goodIn_of _ (by decide +kernel)) ggX2_hydrostaticAbove_X1_pressureOfPart
set_option maxRecDepth 20000 in
theorem ggX2_drillPipePressure_X1_pressureAtPipe : GoodIn wsX2_drillPipePressure wsX1_pressureAtPipe := goodIn_r _ [6, 7, 8, 9, 10, 11, 12, 13, 14, 5, 15, 16, 17, 18, 19, 20, 21, 22, 23, 24, 25, 26, 27, 28, 29, 30, 31, 32, 33, 39, 40, 41, 42, 43, 44, 45, 46, 47, 48, 49, 50, 51, 52, 53, 54, 55, 56, 57] rfl (by decide +kernel)
set_option maxRecDepth 20000 in
theorem gX2_drillPipePressure_X1_pressureAtPipe : GoodIn wsX2_drillPipePressure (wsV RX2 101 RX1 yX1_pressureAtPipe wsX1_pressureAtPipe) := goodIn_app (goodIn_of _ (by decide +kernel)) ggX2_drillPipePressure_X1_pressureAtPipe
set_option maxRecDepth 20000 in
theorem ggX2_casingPressure_X1_pressureAtCasing : GoodIn wsX2_casingPressure wsX1_pressureAtCasing := goodIn_r _ [6, 7, 8, 9, 10, 11, 12, 13, 14, 5, 15, 16, 17, 18, 19, 20, 21, 22, 23, 24, 25, 26, 27, 28, 29, 30, 31, 32, 33, 39, 40, 41, 42, 43, 44, 45, 46, 47, 48, 49, 50, 51, 52, 53, 54, 55, 56, 57] rfl (by decide +kernel)
set_option maxRecDepth 20000 in
theorem gX2_casingPressure_X1_pressureAtCasing : GoodIn wsX2_casingPressure (wsV RX2 88 RX1 yX1_pressureAtCasing wsX1_pressureAtCasing) := goodIn_app (goodIn_of _ (by decide +kernel)) ggX2_casingPressure_X1_pressureAtCasing
set_option maxRecDepth 20000 in
theorem ggX2_standpipePressure_X1_pressureAtStandpipe : GoodIn wsX2_standpipePressure wsX1_pressureAtStandpipe := goodIn_r _ [6, 7, 8, 9, 10, 5, 11, 12, 13, 14, 15, 16, 17, 18, 19, 20, 21, 22, 23, 24, 25, 26, 27, 28, 29, 30, 31, 32, 33, 34, 35, 36, 37, 38, 44, 45, 46, 47, 48, 49, 50, 51, 52, 53, 54, 55, 56, 57, 58, 59, 60, 61, 62] rfl (by decide +kernel)
set_option maxRecDepth 20000 in
theorem gX2_standpipePressure_X1_pressureAtStandpipe : GoodIn wsX2_standpipePressure (wsV RX2 104 RX1 yX1_pressureAtStandpipe wsX1_pressureAtStandpipe) := goodIn_app (goodIn_of _ (by decide +kernel)) ggX2_standpipePressure_X1_pressureAtStandpipe
set_option maxRecDepth 20000 in
theorem ggX2_shoePressure_X1_pressureAtShoe : GoodIn wsX2_shoePressure wsX1_pressureAtShoe := goodIn_r _ [6, 7, 8, 9, 10, 5, 11, 12, 13, 14, 15, 16, 17, 18, 19, 20, 21, 22, 23, 24, 25, 26, 27, 28, 29, 30, 31, 32, 33, 34, 35, 36, 37, 38, 39, 40, 41, 42, 43, 44, 45, 46, 47, 48, 49, 50, 51, 52, 53, 54, 55, 56, 57, 58, 59, 60, 61, 62, 63, 69, 70, 71, 72, 73, 74, 75, 76, 77, 78, 79, 80, 81, 82, 83, 84, 85, 86, 87] rfl (by decide +kernel)
set_option maxRecDepth 20000 in
theorem gX2_shoePressure_X1_pressureAtShoe : GoodIn wsX2_shoePressure (wsV RX2 107 RX1 yX1_pressureAtShoe wsX1_pressureAtShoe) := goodIn_app (goodIn_of _ (by decide +kernel)) ggX2_shoePressure_X1_pressureAtShoe
set_option maxRecDepth 20000 in
theorem ggX2_allowedCasingPressure_X1_pressureOfPart : GoodIn wsX2_allowedCasingPressure wsX1_pressureOfPart := goodIn_r _ [8, 9, 10, 11, 7, 12, 13, 14, 15, 16, 17, 18, 19, 20, 21, 22, 23, 24, 25, 26, 27, 28, 29, 30, 31, 32, 33, 34, 35, 36, 37, 38, 39, 40, 41, 42, 43, 44, 45, 46, 47, 48, 49, 50, 56, 57, 58, 59, 60, 61, 62, 63, 64, 65, 66, 67, 68, 69, 70, 71, 72, 73, 74] rfl (by decide +kernel)
set_option maxRecDepth 20000 in
theorem gX2_allowedCasingPressure_X1_pressureOfPart : GoodIn wsX2_allowedCasingPressure (wsV RX2 97 RX1 yX1_pressureOfPart wsX1_pressureOfPart) := goodIn_app (goodIn_of _ (by decide +kernel)) ggX2_allowedCasingPressure_X1_pressureOfPart
set_option maxRecDepth 20000 in
theorem ggX2_killDensity_X1_densityToKill : GoodIn wsX2_killDensity wsX1_densityToKill := goodIn_r _ [6, 7, 8, 9, 10, 11, 12, 13, 14, 15, 16, 17, 18, 33, 34, 35, 36, 37, 38, 39, 40, 41, 42, 43, 44, 45] rfl (by decide +kernel)
set_option maxRecDepth 20000 in
theorem gX2_killDensity_X1_densityToKill : GoodIn wsX2_killDensity (wsV RX2 110 RX1 yX1_densityToKill wsX1_densityToKill) := goodIn_app (goodIn_of _ (by decide +kernel)) ggX2_killDensity_X1_densityToKill
set_option maxRecDepth 20000 in
theorem ggX2_killDensity_X2_refuse : GoodIn wsX2_killDensity wsX2_refuse := goodIn_r _ [23, 24, 25, 26, 22, 27, 28, 29, 30, 31, 32] rfl (by decide +kernel)
set_option maxRecDepth 20000 in
theorem gX2_killDensity_X2_refuse : GoodIn wsX2_killDensity (wsV RX2 35 RX2 yX2_refuse wsX2_refuse) := goodIn_app (goodIn_of _ (by decide +kernel)) ggX2_killDensity_X2_refuse
set_option maxRecDepth 20000 in
theorem ggX2_killShoePressure_X2_within : GoodIn wsX2_killShoePressure wsX2_within := goodIn_r _ [8] rfl (by decide +kernel)
set_option maxRecDepth 20000 in
theorem gX2_killShoePressure_X2_within : GoodIn wsX2_killShoePressure (va_wsS RX2 31 yX2_within wsX2_within) := goodIn_app (goodIn_of _ (by decide +kernel)) ggX2_killShoePressure_X2_within
set_option maxRecDepth 20000 in
theorem ggX2_killShoePressure_X2_refuse : GoodIn wsX2_killShoePressure wsX2_refuse := goodIn_r _ [12, 13, 5, 6, 7, 8, 158, 159, 160, 161, 162] rfl (by decide +kernel)
set_option maxRecDepth 20000 in
theorem gX2_killShoePressure_X2_refuse : GoodIn wsX2_killShoePressure (wsV RX2 35 RX2 yX2_refuse wsX2_refuse) := goodIn_app (goodIn_of _ (by decide +kernel)) ggX2_killShoePressure_X2_refuse
set_option maxRecDepth 20000 in
theorem ggX2_killShoePressure_X1_canCirculate : GoodIn wsX2_killShoePressure wsX1_canCirculate := goodIn_r _ [18, 19, 20, 21, 17, 22, 23, 24, 25, 26, 27, 28, 29, 163, 164, 165, 166, 167, 168, 169, 170, 171, 172, 173, 174, 175] rfl (by decide +kernel)
set_option maxRecDepth 20000 in
theorem gX2_killShoePressure_X1_canCirculate : GoodIn wsX2_killShoePressure (wsV RX2 77 RX1 yX1_canCirculate wsX1_canCirculate) := goodIn_app (goodIn_of _ (by decide +kernel)) ggX2_killShoePressure_X1_canCirculate
set_option maxRecDepth 20000 in
theorem ggX2_killShoePressure_X1_densityToKill : GoodIn wsX2_killShoePressure wsX1_densityToKill := goodIn_r _ [33, 34, 23, 35, 36, 37, 38, 39, 40, 41, 42, 43, 44, 163, 164, 165, 166, 167, 168, 169, 170, 171, 172, 173, 174, 175] rfl (by decide +kernel)
set_option maxRecDepth 20000 in
theorem gX2_killShoePressure_X1_densityToKill : GoodIn wsX2_killShoePressure (wsV RX2 110 RX1 yX1_densityToKill wsX1_densityToKill) := goodIn_app (goodIn_of _ (by decide +kernel)) ggX2_killShoePressure_X1_densityToKill
set_option maxRecDepth 20000 in
theorem ggX2_killShoePressure_X1_copyFrom : GoodIn wsX2_killShoePressure wsX1_copyFrom := goodIn_r _ [48, 23, 24, 29, 49, 50, 40, 51, 52, 53, 54, 55, 56, 57, 58, 59, 60, 61, 62, 63, 64, 65, 66, 67, 68, 69, 70, 71, 72, 73, 74, 75, 76, 77, 78, 79, 80, 81, 82, 83, 84, 85, 86, 87, 163, 164, 165, 166, 167, 168, 169, 170, 171, 172, 173, 174, 175, 176, 177, 178, 179, 180, 181] rfl (by decide +kernel)
set_option maxRecDepth 20000 in
theorem gX2_killShoePressure_X1_copyFrom : GoodIn wsX2_killShoePressure (wsV RX2 113 RX1 yX1_copyFrom wsX1_copyFrom) := goodIn_app (goodIn_of _ (by decide +kernel)) ggX2_killShoePressure_X1_copyFrom
set_option maxRecDepth 20000 in
theorem ggX2_killShoePressure_X1_annulusVolume : GoodIn wsX2_killShoePressure wsX1_annulusVolume := goodIn_r _ [28, 23, 29, 163, 164, 165, 166, 167, 168, 169, 170, 171, 172, 173, 174, 175] rfl (by decide +kernel)
set_option maxRecDepth 20000 in
theorem gX2_killShoePressure_X1_annulusVolume : GoodIn wsX2_killShoePressure (wsV RX2 61 RX1 yX1_annulusVolume wsX1_annulusVolume) := goodIn_app (goodIn_of _ (by decide +kernel)) ggX2_killShoePressure_X1_annulusVolume
set_option maxRecDepth 20000 in
theorem ggX2_killShoePressure_X1_circulateInSteps : GoodIn wsX2_killShoePressure wsX1_circulateInSteps := goodIn_r _ [92, 93, 7, 94, 95, 36, 37, 38, 96, 97, 98, 17, 99, 57, 56, 100, 101, 102, 61, 103, 63, 104, 105, 106, 107, 64, 108, 109, 110, 71, 65, 70, 72, 73, 74, 75, 76, 77, 78, 79, 111, 112, 113, 114, 80, 81, 82, 83, 84, 85, 86, 87, 115, 116, 117, 118, 119, 52, 54, 55, 35, 120, 121, 122, 123, 49, 124, 125, 126, 127, 40, 128, 129, 130, 131, 132, 133, 134, 135, 136, 137, 138, 139, 140, 24, 29, 141, 142, 143, 34, 39, 144, 145, 146, 147, 148, 149, 150, 151, 152, 153, 154, 155, 156, 163, 164, 165, 166, 167, 168, 169, 170, 171, 172, 173, 174, 175, 176, 177, 178, 179, 180, 181] rfl (by decide +kernel)
set_option maxRecDepth 20000 in
theorem gX2_killShoePressure_X1_circulateInSteps : GoodIn wsX2_killShoePressure (wsV RX2 120 RX1 yX1_circulateInSteps wsX1_circulateInSteps) := goodIn_app (goodIn_of _ (by decide +kernel)) ggX2_killShoePressure_X1_circulateInSteps
set_option maxRecDepth 20000 in
theorem ggX2_killShoePressure_X1_pipeVolume : GoodIn wsX2_killShoePressure wsX1_pipeVolume := goodIn_r _ [22, 23, 24, 163, 164, 165, 166, 167, 168, 169, 170, 171, 172, 173, 174, 175] rfl (by decide +kernel)
set_option maxRecDepth 20000 in
theorem gX2_killShoePressure_X1_pipeVolume : GoodIn wsX2_killShoePressure (wsV RX2 57 RX1 yX1_pipeVolume wsX1_pipeVolume) := goodIn_app (goodIn_of _ (by decide +kernel)) ggX2_killShoePressure_X1_pipeVolume
set_option maxRecDepth 20000 in
theorem ggX2_schedule_X2_within : GoodIn wsX2_schedule wsX2_within := goodIn_r _ [12] rfl (by decide +kernel)
set_option maxRecDepth 20000 in
theorem gX2_schedule_X2_within : GoodIn wsX2_schedule (va_wsS RX2 31 yX2_within wsX2_within) := goodIn_app (goodIn_of _ (by decide +kernel)) ggX2_schedule_X2_within
set_option maxRecDepth 20000 in
theorem ggX2_schedule_X2_refuse : GoodIn wsX2_schedule wsX2_refuse := goodIn_r _ [16, 17, 9, 10, 11, 12, 61, 62, 63, 64, 65] rfl (by decide +kernel)
set_option maxRecDepth 20000 in
theorem gX2_schedule_X2_refuse : GoodIn wsX2_schedule (wsV RX2 35 RX2 yX2_refuse wsX2_refuse) := goodIn_app (goodIn_of _ (by decide +kernel)) ggX2_schedule_X2_refuse
set_option maxRecDepth 20000 in
theorem ggX2_schedule_X1_densityToKill : GoodIn wsX2_schedule wsX1_densityToKill := goodIn_r _ [22, 23, 24, 25, 5, 6, 7, 26, 27, 28, 29, 30, 31, 66, 67, 68, 69, 70, 71, 72, 73, 74, 75, 76, 77, 78] rfl (by decide +kernel)
set_option maxRecDepth 20000 in
theorem gX2_schedule_X1_densityToKill : GoodIn wsX2_schedule (wsV RX2 110 RX1 yX1_densityToKill wsX1_densityToKill) := goodIn_app (goodIn_of _ (by decide +kernel)) ggX2_schedule_X1_densityToKill
set_option maxRecDepth 20000 in
theorem ggX2_schedule_X1_pressureAtStandpipe : GoodIn wsX2_schedule wsX1_pressureAtStandpipe := goodIn_r _ [35, 36, 37, 38, 39, 21, 40, 27, 25, 5, 6, 7, 41, 42, 43, 44, 45, 46, 47, 48, 49, 50, 51, 52, 53, 54, 55, 56, 57, 58, 59, 60, 23, 26, 66, 67, 68, 69, 70, 71, 72, 73, 74, 75, 76, 77, 78, 79, 80, 81, 82, 83, 84] rfl (by decide +kernel)
set_option maxRecDepth 20000 in
theorem gX2_schedule_X1_pressureAtStandpipe : GoodIn wsX2_schedule (wsV RX2 104 RX1 yX1_pressureAtStandpipe wsX1_pressureAtStandpipe) := goodIn_app (goodIn_of _ (by decide +kernel)) ggX2_schedule_X1_pressureAtStandpipe
set_option maxRecDepth 20000 in
theorem ggX2_strokesToBit_X2_within : GoodIn wsX2_strokesToBit wsX2_within := goodIn_r _ [5] rfl (by decide +kernel)
set_option maxRecDepth 20000 in
theorem gX2_strokesToBit_X2_within : GoodIn wsX2_strokesToBit (va_wsS RX2 31 yX2_within wsX2_within) := goodIn_app (goodIn_of _ (by decide +kernel)) ggX2_strokesToBit_X2_within
set_option maxRecDepth 20000 in
theorem ggX2_strokesToBit_X2_refuse : GoodIn wsX2_strokesToBit wsX2_refuse := goodIn_r _ [9, 10, 2, 3, 4, 5, 25, 26, 27, 28, 29] rfl (by decide +kernel)
set_option maxRecDepth 20000 in
theorem gX2_strokesToBit_X2_refuse : GoodIn wsX2_strokesToBit (wsV RX2 35 RX2 yX2_refuse wsX2_refuse) := goodIn_app (goodIn_of _ (by decide +kernel)) ggX2_strokesToBit_X2_refuse
set_option maxRecDepth 20000 in
theorem ggX2_strokesToBit_X1_pipeVolume : GoodIn wsX2_strokesToBit wsX1_pipeVolume := goodIn_r _ [15, 16, 17, 30, 31, 32, 33, 34, 35, 36, 37, 38, 39, 40, 41, 42] rfl (by decide +kernel)
set_option maxRecDepth 20000 in
theorem gX2_strokesToBit_X1_pipeVolume : GoodIn wsX2_strokesToBit (wsV RX2 57 RX1 yX1_pipeVolume wsX1_pipeVolume) := goodIn_app (goodIn_of _ (by decide +kernel)) ggX2_strokesToBit_X1_pipeVolume
set_option maxRecDepth 20000 in
theorem ggX2_strokesToBit_X2_portionsFor : GoodIn wsX2_strokesToBit wsX2_portionsFor := goodIn_r _ [20, 21, 22, 23, 24] rfl (by decide +kernel)
set_option maxRecDepth 20000 in
theorem gX2_strokesToBit_X2_portionsFor : GoodIn wsX2_strokesToBit (va_wsS RX2 131 yX2_portionsFor wsX2_portionsFor) := goodIn_app (goodIn_of _ (by decide +kernel)) ggX2_strokesToBit_X2_portionsFor
set_option maxRecDepth 20000 in
theorem ggX2_layers_X2_within : GoodIn wsX2_layers wsX2_within := goodIn_r _ [6] rfl (by decide +kernel)
set_option maxRecDepth 20000 in
theorem gX2_layers_X2_within : GoodIn wsX2_layers (va_wsS RX2 31 yX2_within wsX2_within) := goodIn_app (goodIn_of _ (by decide +kernel)) ggX2_layers_X2_within
set_option maxRecDepth 20000 in
theorem ggX2_layers_X2_refuse : GoodIn wsX2_layers wsX2_refuse := goodIn_r _ [10, 11, 3, 4, 5, 6, 19, 20, 21, 22, 23] rfl (by decide +kernel)
set_option maxRecDepth 20000 in
theorem gX2_layers_X2_refuse : GoodIn wsX2_layers (wsV RX2 35 RX2 yX2_refuse wsX2_refuse) := goodIn_app (goodIn_of _ (by decide +kernel)) ggX2_layers_X2_refuse
set_option maxRecDepth 20000 in
theorem ggX2_layers_X1_column : GoodIn wsX2_layers wsX1_column := goodIn_r _ [16, 17, 18, 30, 31, 32, 33, 34, 35, 36, 37, 38, 39, 40, 41, 42] rfl (by decide +kernel)
set_option maxRecDepth 20000 in
theorem gX2_layers_X1_column : GoodIn wsX2_layers (wsV RX2 134 RX1 yX1_column wsX1_column) := goodIn_app (goodIn_of _ (by decide +kernel)) ggX2_layers_X1_column
set_option maxRecDepth 20000 in
theorem ggX2_layerVolume_X2_layerError : GoodIn wsX2_layerVolume wsX2_layerError := goodIn_r _ [6, 1, 7, 8, 9, 5, 10, 11, 12, 13, 14, 15, 16, 17, 40, 41, 42, 43, 44, 45, 46, 47, 48, 49, 50, 51, 52, 53, 54, 55, 56, 57, 58, 59, 60, 61, 62, 63] rfl (by decide +kernel)
set_option maxRecDepth 20000 in
theorem gX2_layerVolume_X2_layerError : GoodIn wsX2_layerVolume (wsV RX2 143 RX2 yX2_layerError wsX2_layerError) := goodIn_app (goodIn_of _ (by decide +kernel)) ggX2_layerVolume_X2_layerError
set_option maxRecDepth 20000 in
theorem ggX2_layerVolume_X2_refuse : GoodIn wsX2_layerVolume wsX2_refuse := goodIn_r _ [21, 22, 8, 9, 5, 10, 40, 41, 42, 43, 44] rfl (by decide +kernel)
set_option maxRecDepth 20000 in
theorem gX2_layerVolume_X2_refuse : GoodIn wsX2_layerVolume (wsV RX2 35 RX2 yX2_refuse wsX2_refuse) := goodIn_app (goodIn_of _ (by decide +kernel)) ggX2_layerVolume_X2_refuse
set_option maxRecDepth 20000 in
theorem ggX2_layerVolume_X1_column : GoodIn wsX2_layerVolume wsX1_column := goodIn_r _ [15, 16, 17, 51, 52, 53, 54, 55, 56, 57, 58, 59, 60, 61, 62, 63] rfl (by decide +kernel)
set_option maxRecDepth 20000 in
theorem gX2_layerVolume_X1_column : GoodIn wsX2_layerVolume (wsV RX2 134 RX1 yX1_column wsX1_column) := goodIn_app (goodIn_of _ (by decide +kernel)) ggX2_layerVolume_X1_column
set_option maxRecDepth 20000 in
theorem ggX2_layerVolume_X0_volumeOf : GoodIn wsX2_layerVolume wsX0_volumeOf := goodIn_r _ [27, 28, 29, 30, 31, 26, 32, 33, 34, 35, 36, 37, 38, 39, 45, 46, 47, 48, 49, 50] rfl (by decide +kernel)
set_option maxRecDepth 20000 in
theorem gX2_layerVolume_X0_volumeOf : GoodIn wsX2_layerVolume (wsV RX2 146 RX0 yX0_volumeOf wsX0_volumeOf) := goodIn_app (goodIn_of _ (by decide +kernel)) ggX2_layerVolume_X0_volumeOf
set_option maxRecDepth 20000 in
theorem ggX2_layerDensity_X2_layerError : GoodIn wsX2_layerDensity wsX2_layerError := goodIn_r _ [6, 1, 7, 8, 9, 5, 10, 11, 12, 13, 14, 15, 16, 17, 40, 41, 42, 43, 44, 45, 46, 47, 48, 49, 50, 51, 52, 53, 54, 55, 56, 57, 58, 59, 60, 61, 62, 63] rfl (by decide +kernel)
set_option maxRecDepth 20000 in
theorem gX2_layerDensity_X2_layerError : GoodIn wsX2_layerDensity (wsV RX2 143 RX2 yX2_layerError wsX2_layerError) := goodIn_app (goodIn_of _ (by decide +kernel)) ggX2_layerDensity_X2_layerError
set_option maxRecDepth 20000 in
theorem ggX2_layerDensity_X2_refuse : GoodIn wsX2_layerDensity wsX2_refuse := goodIn_r _ [21, 22, 8, 9, 5, 10, 40, 41, 42, 43, 44] rfl (by decide +kernel)
set_option maxRecDepth 20000 in
theorem gX2_layerDensity_X2_refuse : GoodIn wsX2_layerDensity (wsV RX2 35 RX2 yX2_refuse wsX2_refuse) := goodIn_app (goodIn_of _ (by decide +kernel)) ggX2_layerDensity_X2_refuse
set_option maxRecDepth 20000 in
theorem ggX2_layerDensity_X1_column : GoodIn wsX2_layerDensity wsX1_column := goodIn_r _ [15, 16, 17, 51, 52, 53, 54, 55, 56, 57, 58, 59, 60, 61, 62, 63] rfl (by decide +kernel)
set_option maxRecDepth 20000 in
theorem gX2_layerDensity_X1_column : GoodIn wsX2_layerDensity (wsV RX2 134 RX1 yX1_column wsX1_column) := goodIn_app (goodIn_of _ (by decide +kernel)) ggX2_layerDensity_X1_column
set_option maxRecDepth 20000 in
theorem ggX2_layerDensity_X0_densityOf : GoodIn wsX2_layerDensity wsX0_densityOf := goodIn_r _ [27, 28, 29, 30, 31, 26, 32, 33, 34, 35, 36, 37, 38, 39, 45, 46, 47, 48, 49, 50] rfl (by decide +kernel)
set_option maxRecDepth 20000 in
theorem gX2_layerDensity_X0_densityOf : GoodIn wsX2_layerDensity (wsV RX2 149 RX0 yX0_densityOf wsX0_densityOf) := goodIn_app (goodIn_of _ (by decide +kernel)) ggX2_layerDensity_X0_densityOf
set_option maxRecDepth 20000 in
theorem ggX2_undo_X2_refuse : GoodIn wsX2_undo wsX2_refuse := goodIn_r _ [8, 9, 10, 11, 7, 12, 13, 14, 15, 16, 17] rfl (by decide +kernel)
set_option maxRecDepth 20000 in
theorem gX2_undo_X2_refuse : GoodIn wsX2_undo (wsV RX2 35 RX2 yX2_refuse wsX2_refuse) := goodIn_app (goodIn_of _ (by decide +kernel)) ggX2_undo_X2_refuse
set_option maxRecDepth 20000 in
theorem ggX2_errorCount_X2_within : GoodIn wsX2_errorCount wsX2_within := goodIn_r _ [5] rfl (by decide +kernel)
set_option maxRecDepth 20000 in
theorem gX2_errorCount_X2_within : GoodIn wsX2_errorCount (va_wsS RX2 31 yX2_within wsX2_within) := goodIn_app (goodIn_of _ (by decide +kernel)) ggX2_errorCount_X2_within
set_option maxRecDepth 20000 in
theorem ggX2_errorCount_X2_refuse : GoodIn wsX2_errorCount wsX2_refuse := goodIn_r _ [9, 1, 2, 3, 4, 5, 10, 11, 12, 13, 14] rfl (by decide +kernel)
set_option maxRecDepth 20000 in
theorem gX2_errorCount_X2_refuse : GoodIn wsX2_errorCount (wsV RX2 35 RX2 yX2_refuse wsX2_refuse) := goodIn_app (goodIn_of _ (by decide +kernel)) ggX2_errorCount_X2_refuse
set_option maxRecDepth 20000 in
theorem ggX2_digest_X2_mixed : GoodIn wsX2_digest wsX2_mixed := goodIn_r _ [10, 11] rfl (by decide +kernel)
set_option maxRecDepth 20000 in
theorem gX2_digest_X2_mixed : GoodIn wsX2_digest (va_wsS RX2 160 yX2_mixed wsX2_mixed) := goodIn_app (goodIn_of _ (by decide +kernel)) ggX2_digest_X2_mixed
set_option maxRecDepth 20000 in
theorem ggX2_digest_X1_mixedSettings : GoodIn wsX2_digest wsX1_mixedSettings := goodIn_r _ [16, 17, 18, 19, 20, 21, 22, 23, 24, 8, 9, 10, 11, 106, 107, 108, 109, 110, 111, 112, 113, 114, 115, 116, 117, 118] rfl (by decide +kernel)
set_option maxRecDepth 20000 in
theorem gX2_digest_X1_mixedSettings : GoodIn wsX2_digest (wsV RX2 164 RX1 yX1_mixedSettings wsX1_mixedSettings) := goodIn_app (goodIn_of _ (by decide +kernel)) ggX2_digest_X1_mixedSettings
set_option maxRecDepth 20000 in
theorem ggX2_digest_X0_mixedLayers : GoodIn wsX2_digest wsX0_mixedLayers := goodIn_r _ [29, 30, 31, 32, 8, 9, 10, 11, 33, 34, 35, 28, 36, 37, 38, 39, 40, 41, 42, 119, 120, 121, 122, 123, 124] rfl (by decide +kernel)
set_option maxRecDepth 20000 in
theorem gX2_digest_X0_mixedLayers : GoodIn wsX2_digest (wsV RX2 172 RX0 yX0_mixedLayers wsX0_mixedLayers) := goodIn_app (goodIn_of _ (by decide +kernel)) ggX2_digest_X0_mixedLayers
set_option maxRecDepth 20000 in
theorem ggX2_digest_X1_mixedReadings : GoodIn wsX2_digest wsX1_mixedReadings := goodIn_r _ [46, 47, 48, 49, 50, 51, 52, 15, 53, 22, 54, 55, 56, 57, 58, 59, 60, 61, 62, 63, 64, 65, 66, 67, 68, 69, 70, 71, 72, 18, 19, 73, 74, 75, 76, 77, 8, 9, 10, 11, 78, 79, 80, 81, 82, 83, 84, 85, 23, 86, 87, 88, 89, 20, 90, 91, 92, 93, 94, 95, 96, 28, 97, 30, 31, 98, 99, 100, 32, 33, 34, 35, 36, 37, 38, 39, 40, 41, 42, 106, 107, 108, 109, 110, 111, 112, 113, 114, 115, 116, 117, 118, 119, 120, 121, 122, 123, 124] rfl (by decide +kernel)
set_option maxRecDepth 20000 in
theorem gX2_digest_X1_mixedReadings : GoodIn wsX2_digest (wsV RX2 178 RX1 yX1_mixedReadings wsX1_mixedReadings) := goodIn_app (goodIn_of _ (by decide +kernel)) ggX2_digest_X1_mixedReadings
set_option maxRecDepth 20000 in
theorem ggX2_layerError_X2_within : GoodIn wsX2_layerError wsX2_within := goodIn_r _ [6] rfl (by decide +kernel)
set_option maxRecDepth 20000 in
theorem gX2_layerError_X2_within : GoodIn wsX2_layerError (va_wsS RX2 31 yX2_within wsX2_within) := goodIn_app (goodIn_of _ (by decide +kernel)) ggX2_layerError_X2_within
set_option maxRecDepth 20000 in
theorem ggX2_layerError_X1_column : GoodIn wsX2_layerError wsX1_column := goodIn_r _ [11, 12, 13, 25, 26, 27, 28, 29, 30, 31, 32, 33, 34, 35, 36, 37] rfl (by decide +kernel)
set_option maxRecDepth 20000 in
theorem gX2_layerError_X1_column : GoodIn wsX2_layerError (wsV RX2 134 RX1 yX1_column wsX1_column) := goodIn_app (goodIn_of _ (by decide +kernel)) ggX2_layerError_X1_column
set_option maxRecDepth 20000 in
theorem ggX2_refuse_X2_within : GoodIn wsX2_refuse wsX2_within := goodIn_r _ [5] rfl (by decide +kernel)
set_option maxRecDepth 20000 in
theorem gX2_refuse_X2_within : GoodIn wsX2_refuse (va_wsS RX2 31 yX2_within wsX2_within) := goodIn_app (goodIn_of _ (by decide +kernel)) ggX2_refuse_X2_within
set_option maxRecDepth 20000 in
theorem ggX2_save_X2_dropOldestSaved : GoodIn wsX2_save wsX2_dropOldestSaved := goodIn_r _ [8, 2, 1, 57, 58, 59, 60, 61] rfl (by decide +kernel)
set_option maxRecDepth 20000 in
theorem gX2_save_X2_dropOldestSaved : GoodIn wsX2_save (wsV RX2 183 RX2 yX2_dropOldestSaved wsX2_dropOldestSaved) := goodIn_app (goodIn_of _ (by decide +kernel)) ggX2_save_X2_dropOldestSaved
set_option maxRecDepth 20000 in
theorem ggX2_save_X1_copyFrom : GoodIn wsX2_save wsX1_copyFrom := goodIn_r _ [13, 14, 15, 16, 17, 18, 19, 20, 21, 22, 23, 24, 25, 26, 27, 28, 29, 30, 31, 32, 33, 34, 35, 36, 37, 38, 39, 40, 41, 42, 43, 44, 45, 46, 47, 48, 49, 50, 51, 52, 53, 54, 55, 56, 62, 63, 64, 65, 66, 67, 68, 69, 70, 71, 72, 73, 74, 75, 76, 77, 78, 79, 80] rfl (by decide +kernel)
set_option maxRecDepth 20000 in
theorem gX2_save_X1_copyFrom : GoodIn wsX2_save (wsV RX2 113 RX1 yX1_copyFrom wsX1_copyFrom) := goodIn_app (goodIn_of _ (by decide +kernel)) ggX2_save_X1_copyFrom
set_option maxRecDepth 20000 in
theorem ggX3_init_X3_fill : GoodIn wsX3_init wsX3_fill := goodIn_r _ [13, 5, 14, 15, 12, 16, 17, 18, 19, 20, 21, 22, 23, 24, 25, 26, 27, 28, 29] rfl (by decide +kernel)
set_option maxRecDepth 20000 in
theorem gX3_init_X3_fill : GoodIn wsX3_init (wsV RX3 22 RX3 yX3_fill wsX3_fill) := goodIn_app (goodIn_of _ (by decide +kernel)) ggX3_init_X3_fill
set_option maxRecDepth 20000 in
theorem ggX3_save_X3_copy : GoodIn wsX3_save wsX3_copy := goodIn_r _ [7] rfl (by decide +kernel)
set_option maxRecDepth 20000 in
theorem gX3_save_X3_copy : GoodIn wsX3_save (va_wsS RX3 29 yX3_copy wsX3_copy) := goodIn_app (goodIn_of _ (by decide +kernel)) ggX3_save_X3_copy
set_option maxRecDepth 20000 in
theorem ggX3_densityAt_X3_volumeAt : GoodIn wsX3_densityAt wsX3_volumeAt := goodIn_r _ [4] rfl (by decide +kernel)
set_option maxRecDepth 20000 in
theorem gX3_densityAt_X3_volumeAt : GoodIn wsX3_densityAt (va_wsS RX3 33 yX3_volumeAt wsX3_volumeAt) := goodIn_app (goodIn_of _ (by decide +kernel)) ggX3_densityAt_X3_volumeAt
set_option maxRecDepth 20000 in
theorem ggX3_fill_X3_volumeAt : GoodIn wsX3_fill wsX3_volumeAt := goodIn_r _ [5] rfl (by decide +kernel)
set_option maxRecDepth 20000 in
theorem gX3_fill_X3_volumeAt : GoodIn wsX3_fill (va_wsS RX3 33 yX3_volumeAt wsX3_volumeAt) := goodIn_app (goodIn_of _ (by decide +kernel)) ggX3_fill_X3_volumeAt
set_option maxRecDepth 20000 in
theorem ggX3_fill_X3_volumeOf : GoodIn wsX3_fill wsX3_volumeOf := goodIn_r _ [9, 1, 13, 14, 15, 16, 17, 18] rfl (by decide +kernel)
set_option maxRecDepth 20000 in
theorem gX3_fill_X3_volumeOf : GoodIn wsX3_fill (wsV RX3 37 RX3 yX3_volumeOf wsX3_volumeOf) := goodIn_app (goodIn_of _ (by decide +kernel)) ggX3_fill_X3_volumeOf
set_option maxRecDepth 20000 in
theorem ggX3_fill_X3_densityAt : GoodIn wsX3_fill wsX3_densityAt := goodIn_r _ [12, 2, 3, 4, 5] rfl (by decide +kernel)
set_option maxRecDepth 20000 in
theorem gX3_fill_X3_densityAt : GoodIn wsX3_fill (va_wsS RX3 41 yX3_densityAt wsX3_densityAt) := goodIn_app (goodIn_of _ (by decide +kernel)) ggX3_fill_X3_densityAt
set_option maxRecDepth 20000 in
theorem ggX3_putOnTop_X3_densityAt : GoodIn wsX3_putOnTop wsX3_densityAt := goodIn_r _ [5, 6, 7, 4, 8] rfl (by decide +kernel)
set_option maxRecDepth 20000 in
theorem gX3_putOnTop_X3_densityAt : GoodIn wsX3_putOnTop (va_wsS RX3 41 yX3_densityAt wsX3_densityAt) := goodIn_app (goodIn_of _ (by decide +kernel)) ggX3_putOnTop_X3_densityAt
set_option maxRecDepth 20000 in
theorem ggX3_putOnTop_X3_volumeAt : GoodIn wsX3_putOnTop wsX3_volumeAt := goodIn_r _ [8] rfl (by decide +kernel)
set_option maxRecDepth 20000 in
theorem gX3_putOnTop_X3_volumeAt : GoodIn wsX3_putOnTop (va_wsS RX3 33 yX3_volumeAt wsX3_volumeAt) := goodIn_app (goodIn_of _ (by decide +kernel)) ggX3_putOnTop_X3_volumeAt
set_option maxRecDepth 20000 in
theorem ggX3_enter_X3_densityAt : GoodIn wsX3_enter wsX3_densityAt := goodIn_r _ [5, 6, 7, 4, 8] rfl (by decide +kernel)
set_option maxRecDepth 20000 in
theorem gX3_enter_X3_densityAt : GoodIn wsX3_enter (va_wsS RX3 41 yX3_densityAt wsX3_densityAt) := goodIn_app (goodIn_of _ (by decide +kernel)) ggX3_enter_X3_densityAt
set_option maxRecDepth 20000 in
theorem ggX3_enter_X3_volumeAt : GoodIn wsX3_enter wsX3_volumeAt := goodIn_r _ [8] rfl (by decide +kernel)
set_option maxRecDepth 20000 in
theorem gX3_enter_X3_volumeAt : GoodIn wsX3_enter (va_wsS RX3 33 yX3_volumeAt wsX3_volumeAt) := goodIn_app (goodIn_of _ (by decide +kernel)) ggX3_enter_X3_volumeAt
set_option maxRecDepth 20000 in
theorem ggX3_passOver_X3_volumeAt : GoodIn wsX3_passOver wsX3_volumeAt := goodIn_r _ [5] rfl (by decide +kernel)
set_option maxRecDepth 20000 in
theorem gX3_passOver_X3_volumeAt : GoodIn wsX3_passOver (va_wsS RX3 33 yX3_volumeAt wsX3_volumeAt) := goodIn_app (goodIn_of _ (by decide +kernel)) ggX3_passOver_X3_volumeAt
set_option maxRecDepth 20000 in
theorem ggX3_passOver_X3_densityAt : GoodIn wsX3_passOver wsX3_densityAt := goodIn_r _ [8, 2, 3, 4, 5] rfl (by decide +kernel)
set_option maxRecDepth 20000 in
theorem gX3_passOver_X3_densityAt : GoodIn wsX3_passOver (va_wsS RX3 41 yX3_densityAt wsX3_densityAt) := goodIn_app (goodIn_of _ (by decide +kernel)) ggX3_passOver_X3_densityAt
set_option maxRecDepth 20000 in
theorem ggX3_passOver_X3_enter : GoodIn wsX3_passOver wsX3_enter := goodIn_r _ [12, 1, 6, 7, 4, 8, 2, 3, 5, 13, 14, 15, 16, 17, 18] rfl (by decide +kernel)
set_option maxRecDepth 20000 in
theorem gX3_passOver_X3_enter : GoodIn wsX3_passOver (wsV RX3 44 RX3 yX3_enter wsX3_enter) := goodIn_app (goodIn_of _ (by decide +kernel)) ggX3_passOver_X3_enter
set_option maxRecDepth 20000 in
theorem ggX3_leave_X3_volumeAt : GoodIn wsX3_leave wsX3_volumeAt := goodIn_r _ [5] rfl (by decide +kernel)
set_option maxRecDepth 20000 in
theorem gX3_leave_X3_volumeAt : GoodIn wsX3_leave (va_wsS RX3 33 yX3_volumeAt wsX3_volumeAt) := goodIn_app (goodIn_of _ (by decide +kernel)) ggX3_leave_X3_volumeAt
set_option maxRecDepth 20000 in
theorem ggX3_leave_X3_densityAt : GoodIn wsX3_leave wsX3_densityAt := goodIn_r _ [8, 2, 3, 4, 5] rfl (by decide +kernel)
set_option maxRecDepth 20000 in
theorem gX3_leave_X3_densityAt : GoodIn wsX3_leave (va_wsS RX3 41 yX3_densityAt wsX3_densityAt) := goodIn_app (goodIn_of _ (by decide +kernel)) ggX3_leave_X3_densityAt
set_option maxRecDepth 20000 in
theorem ggX3_pumpMud_X3_putOnTop : GoodIn wsX3_pumpMud wsX3_putOnTop := goodIn_r _ [5, 6, 7, 8, 4, 9, 10, 11, 12, 25, 26, 27, 28, 29, 30] rfl (by decide +kernel)
set_option maxRecDepth 20000 in
theorem gX3_pumpMud_X3_putOnTop : GoodIn wsX3_pumpMud (wsV RX3 48 RX3 yX3_putOnTop wsX3_putOnTop) := goodIn_app (goodIn_of _ (by decide +kernel)) ggX3_pumpMud_X3_putOnTop
set_option maxRecDepth 20000 in
theorem ggX3_pumpMud_X3_passOver : GoodIn wsX3_pumpMud wsX3_passOver := goodIn_r _ [16, 6, 10, 11, 4, 12, 7, 8, 9, 17, 18, 19, 20, 25, 26, 27, 28, 29, 30] rfl (by decide +kernel)
set_option maxRecDepth 20000 in
theorem gX3_pumpMud_X3_passOver : GoodIn wsX3_pumpMud (wsV RX3 51 RX3 yX3_passOver wsX3_passOver) := goodIn_app (goodIn_of _ (by decide +kernel)) ggX3_pumpMud_X3_passOver
set_option maxRecDepth 20000 in
theorem ggX3_pumpMud_X3_leave : GoodIn wsX3_pumpMud wsX3_leave := goodIn_r _ [24, 6, 10, 11, 4, 12, 7, 8, 9, 25, 26, 27, 28, 29, 30] rfl (by decide +kernel)
set_option maxRecDepth 20000 in
theorem gX3_pumpMud_X3_leave : GoodIn wsX3_pumpMud (wsV RX3 55 RX3 yX3_leave wsX3_leave) := goodIn_app (goodIn_of _ (by decide +kernel)) ggX3_pumpMud_X3_leave
set_option maxRecDepth 20000 in
theorem ggX3_pressureOf_X3_volumeAt : GoodIn wsX3_pressureOf wsX3_volumeAt := goodIn_r _ [7] rfl (by decide +kernel)
set_option maxRecDepth 20000 in
theorem gX3_pressureOf_X3_volumeAt : GoodIn wsX3_pressureOf (va_wsS RX3 33 yX3_volumeAt wsX3_volumeAt) := goodIn_app (goodIn_of _ (by decide +kernel)) ggX3_pressureOf_X3_volumeAt
set_option maxRecDepth 20000 in
theorem ggX3_pressureOf_X3_densityAt : GoodIn wsX3_pressureOf wsX3_densityAt := goodIn_r _ [10, 4, 5, 6, 7] rfl (by decide +kernel)
set_option maxRecDepth 20000 in
theorem gX3_pressureOf_X3_densityAt : GoodIn wsX3_pressureOf (va_wsS RX3 41 yX3_densityAt wsX3_densityAt) := goodIn_app (goodIn_of _ (by decide +kernel)) ggX3_pressureOf_X3_densityAt
set_option maxRecDepth 20000 in
theorem ggX3_lacking_X3_pressureOf : GoodIn wsX3_lacking wsX3_pressureOf := goodIn_r _ [6, 1, 7, 8, 9, 10, 5, 11, 12, 13, 14, 15, 16, 17, 18, 19, 20] rfl (by decide +kernel)
set_option maxRecDepth 20000 in
theorem gX3_lacking_X3_pressureOf : GoodIn wsX3_lacking (wsV RX3 62 RX3 yX3_pressureOf wsX3_pressureOf) := goodIn_app (goodIn_of _ (by decide +kernel)) ggX3_lacking_X3_pressureOf
set_option maxRecDepth 20000 in
theorem ggX3_atShoe_X3_lacking : GoodIn wsX3_atShoe wsX3_lacking := goodIn_r _ [6, 1, 7, 8, 9, 5, 10, 11, 12, 13, 14, 15, 16, 17, 18, 19, 20, 21, 22, 23, 24] rfl (by decide +kernel)
set_option maxRecDepth 20000 in
theorem gX3_atShoe_X3_lacking : GoodIn wsX3_atShoe (wsV RX3 65 RX3 yX3_lacking wsX3_lacking) := goodIn_app (goodIn_of _ (by decide +kernel)) ggX3_atShoe_X3_lacking
set_option maxRecDepth 20000 in
theorem ggX3_atShoe_X3_pressureOf : GoodIn wsX3_atShoe wsX3_pressureOf := goodIn_r _ [10, 1, 11, 12, 13, 14, 5, 15, 16, 17, 18, 19, 20, 21, 22, 23, 24] rfl (by decide +kernel)
set_option maxRecDepth 20000 in
theorem gX3_atShoe_X3_pressureOf : GoodIn wsX3_atShoe (wsV RX3 62 RX3 yX3_pressureOf wsX3_pressureOf) := goodIn_app (goodIn_of _ (by decide +kernel)) ggX3_atShoe_X3_pressureOf
set_option maxRecDepth 20000 in
theorem ggX3_check_X3_atShoe : GoodIn wsX3_check wsX3_atShoe := goodIn_r _ [6, 1, 7, 8, 9, 5, 10, 11, 12, 13, 14, 15, 16, 17, 18, 19, 20, 21, 22, 23, 24, 25, 26, 27, 28] rfl (by decide +kernel)
set_option maxRecDepth 20000 in
theorem gX3_check_X3_atShoe : GoodIn wsX3_check (wsV RX3 68 RX3 yX3_atShoe wsX3_atShoe) := goodIn_app (goodIn_of _ (by decide +kernel)) ggX3_check_X3_atShoe
set_option maxRecDepth 20000 in
theorem ggX3_setGeometry_X3_in : GoodIn wsX3_setGeometry wsX3_in := goodIn_r _ [5] rfl (by decide +kernel)
set_option maxRecDepth 20000 in
theorem gX3_setGeometry_X3_in : GoodIn wsX3_setGeometry (va_wsS RX3 72 yX3_in wsX3_in) := goodIn_app (goodIn_of _ (by decide +kernel)) ggX3_setGeometry_X3_in
set_option maxRecDepth 20000 in
theorem ggX3_setGeometry_X3_error : GoodIn wsX3_setGeometry wsX3_error := goodIn_r _ [9, 10, 34, 35, 36, 37, 38, 39] rfl (by decide +kernel)
set_option maxRecDepth 20000 in
theorem gX3_setGeometry_X3_error : GoodIn wsX3_setGeometry (wsV RX3 76 RX3 yX3_error wsX3_error) := goodIn_app (goodIn_of _ (by decide +kernel)) ggX3_setGeometry_X3_error
set_option maxRecDepth 20000 in
theorem ggX3_setGeometry_X3_save : GoodIn wsX3_setGeometry wsX3_save := goodIn_r _ [14, 15, 16, 1, 17, 18, 4, 19, 34, 35, 36, 37, 38, 39] rfl (by decide +kernel)
set_option maxRecDepth 20000 in
theorem gX3_setGeometry_X3_save : GoodIn wsX3_setGeometry (wsV RX3 79 RX3 yX3_save wsX3_save) := goodIn_app (goodIn_of _ (by decide +kernel)) ggX3_setGeometry_X3_save
set_option maxRecDepth 20000 in
theorem ggX3_setGeometry_X3_fill : GoodIn wsX3_setGeometry wsX3_fill := goodIn_r _ [23, 1, 24, 25, 4, 26, 27, 28, 29, 30, 31, 32, 33, 34, 35, 36, 37, 38, 39] rfl (by decide +kernel)
set_option maxRecDepth 20000 in
theorem gX3_setGeometry_X3_fill : GoodIn wsX3_setGeometry (wsV RX3 22 RX3 yX3_fill wsX3_fill) := goodIn_app (goodIn_of _ (by decide +kernel)) ggX3_setGeometry_X3_fill
set_option maxRecDepth 20000 in
theorem ggX3_setGeometry_X3_volumeOf : GoodIn wsX3_setGeometry wsX3_volumeOf := goodIn_r _ [30, 1, 34, 35, 36, 37, 38, 39] rfl (by decide +kernel)
set_option maxRecDepth 20000 in
theorem gX3_setGeometry_X3_volumeOf : GoodIn wsX3_setGeometry (wsV RX3 37 RX3 yX3_volumeOf wsX3_volumeOf) := goodIn_app (goodIn_of _ (by decide +kernel)) ggX3_setGeometry_X3_volumeOf
set_option maxRecDepth 20000 in
theorem ggX3_set_X3_in : GoodIn wsX3_set wsX3_in := goodIn_r _ [5] rfl (by decide +kernel)
set_option maxRecDepth 20000 in
theorem gX3_set_X3_in : GoodIn wsX3_set (va_wsS RX3 72 yX3_in wsX3_in) := goodIn_app (goodIn_of _ (by decide +kernel)) ggX3_set_X3_in
set_option maxRecDepth 20000 in
theorem ggX3_set_X3_error : GoodIn wsX3_set wsX3_error := goodIn_r _ [9, 10, 20, 21, 22, 23, 24, 25] rfl (by decide +kernel)
set_option maxRecDepth 20000 in
theorem gX3_set_X3_error : GoodIn wsX3_set (wsV RX3 76 RX3 yX3_error wsX3_error) := goodIn_app (goodIn_of _ (by decide +kernel)) ggX3_set_X3_error
set_option maxRecDepth 20000 in
theorem ggX3_set_X3_save : GoodIn wsX3_set wsX3_save := goodIn_r _ [14, 15, 16, 1, 17, 18, 4, 19, 20, 21, 22, 23, 24, 25] rfl (by decide +kernel)
set_option maxRecDepth 20000 in
theorem gX3_set_X3_save : GoodIn wsX3_set (wsV RX3 79 RX3 yX3_save wsX3_save) := goodIn_app (goodIn_of _ (by decide +kernel)) ggX3_set_X3_save
set_option maxRecDepth 20000 in
theorem ggX3_setMud_X3_set : GoodIn wsX3_setMud wsX3_set := goodIn_r _ [5, 6, 7, 8, 4, 9, 10, 11, 12, 13, 14, 15, 16, 17, 18, 19, 20, 21, 22, 23, 24, 25, 26, 27, 28, 29] rfl (by decide +kernel)
set_option maxRecDepth 20000 in
theorem gX3_setMud_X3_set : GoodIn wsX3_setMud (wsV RX3 82 RX3 yX3_set wsX3_set) := goodIn_app (goodIn_of _ (by decide +kernel)) ggX3_setMud_X3_set
set_option maxRecDepth 20000 in
theorem ggX3_setFormation_X3_set : GoodIn wsX3_setFormation wsX3_set := goodIn_r _ [6, 7, 8, 9, 5, 10, 11, 12, 13, 14, 15, 16, 17, 18, 19, 20, 21, 22, 23, 24, 25, 26, 27, 28, 29, 30] rfl (by decide +kernel)
set_option maxRecDepth 20000 in
theorem gX3_setFormation_X3_set : GoodIn wsX3_setFormation (wsV RX3 82 RX3 yX3_set wsX3_set) := goodIn_app (goodIn_of _ (by decide +kernel)) ggX3_setFormation_X3_set
set_option maxRecDepth 20000 in
theorem ggX3_setSlowPump_X3_set : GoodIn wsX3_setSlowPump wsX3_set := goodIn_r _ [5, 6, 7, 8, 4, 9, 10, 11, 12, 13, 14, 15, 16, 17, 18, 19, 20, 21, 22, 23, 24, 25, 26, 27, 28, 29] rfl (by decide +kernel)
set_option maxRecDepth 20000 in
theorem gX3_setSlowPump_X3_set : GoodIn wsX3_setSlowPump (wsV RX3 82 RX3 yX3_set wsX3_set) := goodIn_app (goodIn_of _ (by decide +kernel)) ggX3_setSlowPump_X3_set
set_option maxRecDepth 20000 in
theorem ggX3_setFracture_X3_set : GoodIn wsX3_setFracture wsX3_set := goodIn_r _ [6, 7, 8, 9, 5, 10, 11, 12, 13, 14, 15, 16, 17, 18, 19, 20, 21, 22, 23, 24, 25, 26, 27, 28, 29, 30] rfl (by decide +kernel)
set_option maxRecDepth 20000 in
theorem gX3_setFracture_X3_set : GoodIn wsX3_setFracture (wsV RX3 82 RX3 yX3_set wsX3_set) := goodIn_app (goodIn_of _ (by decide +kernel)) ggX3_setFracture_X3_set
set_option maxRecDepth 20000 in
theorem ggX3_pump_X3_error : GoodIn wsX3_pump wsX3_error := goodIn_r _ [6, 7, 65, 66, 67, 68, 69, 70] rfl (by decide +kernel)
set_option maxRecDepth 20000 in
theorem gX3_pump_X3_error : GoodIn wsX3_pump (wsV RX3 76 RX3 yX3_error wsX3_error) := goodIn_app (goodIn_of _ (by decide +kernel)) ggX3_pump_X3_error
set_option maxRecDepth 20000 in
theorem ggX3_pump_X3_volumeOf : GoodIn wsX3_pump wsX3_volumeOf := goodIn_r _ [11, 1, 65, 66, 67, 68, 69, 70] rfl (by decide +kernel)
set_option maxRecDepth 20000 in
theorem gX3_pump_X3_volumeOf : GoodIn wsX3_pump (wsV RX3 37 RX3 yX3_volumeOf wsX3_volumeOf) := goodIn_app (goodIn_of _ (by decide +kernel)) ggX3_pump_X3_volumeOf
set_option maxRecDepth 20000 in
theorem ggX3_pump_X3_save : GoodIn wsX3_pump wsX3_save := goodIn_r _ [15, 16, 17, 1, 18, 19, 5, 20, 65, 66, 67, 68, 69, 70] rfl (by decide +kernel)
set_option maxRecDepth 20000 in
theorem gX3_pump_X3_save : GoodIn wsX3_pump (wsV RX3 79 RX3 yX3_save wsX3_save) := goodIn_app (goodIn_of _ (by decide +kernel)) ggX3_pump_X3_save
set_option maxRecDepth 20000 in
theorem ggX3_pump_X3_pumpMud : GoodIn wsX3_pump wsX3_pumpMud := goodIn_r _ [24, 25, 26, 27, 5, 28, 1, 29, 30, 31, 32, 33, 34, 35, 36, 37, 38, 39, 40, 41, 42, 43, 44, 45, 46, 65, 66, 67, 68, 69, 70] rfl (by decide +kernel)
set_option maxRecDepth 20000 in
theorem gX3_pump_X3_pumpMud : GoodIn wsX3_pump (wsV RX3 87 RX3 yX3_pumpMud wsX3_pumpMud) := goodIn_app (goodIn_of _ (by decide +kernel)) ggX3_pump_X3_pumpMud
set_option maxRecDepth 20000 in
theorem ggX3_pump_X3_check : GoodIn wsX3_pump wsX3_check := goodIn_r _ [50, 1, 51, 52, 53, 5, 54, 55, 56, 57, 58, 59, 60, 61, 62, 63, 64, 32, 33, 34, 29, 30, 31, 65, 66, 67, 68, 69, 70] rfl (by decide +kernel)
set_option maxRecDepth 20000 in
theorem gX3_pump_X3_check : GoodIn wsX3_pump (wsV RX3 90 RX3 yX3_check wsX3_check) := goodIn_app (goodIn_of _ (by decide +kernel)) ggX3_pump_X3_check
set_option maxRecDepth 20000 in
theorem ggX3_pump_X3_lacking : GoodIn wsX3_pump wsX3_lacking := goodIn_r _ [58, 1, 59, 60, 61, 5, 62, 63, 64, 32, 33, 34, 29, 30, 31, 65, 66, 67, 68, 69, 70] rfl (by decide +kernel)
set_option maxRecDepth 20000 in
theorem gX3_pump_X3_lacking : GoodIn wsX3_pump (wsV RX3 65 RX3 yX3_lacking wsX3_lacking) := goodIn_app (goodIn_of _ (by decide +kernel)) ggX3_pump_X3_lacking
set_option maxRecDepth 20000 in
theorem ggX3_influx_X3_in : GoodIn wsX3_influx wsX3_in := goodIn_r _ [5] rfl (by decide +kernel)
set_option maxRecDepth 20000 in
theorem gX3_influx_X3_in : GoodIn wsX3_influx (va_wsS RX3 72 yX3_in wsX3_in) := goodIn_app (goodIn_of _ (by decide +kernel)) ggX3_influx_X3_in
set_option maxRecDepth 20000 in
theorem ggX3_influx_X3_error : GoodIn wsX3_influx wsX3_error := goodIn_r _ [9, 10, 56, 57, 58, 59, 60, 61] rfl (by decide +kernel)
set_option maxRecDepth 20000 in
theorem gX3_influx_X3_error : GoodIn wsX3_influx (wsV RX3 76 RX3 yX3_error wsX3_error) := goodIn_app (goodIn_of _ (by decide +kernel)) ggX3_influx_X3_error
set_option maxRecDepth 20000 in
theorem ggX3_influx_X3_volumeOf : GoodIn wsX3_influx wsX3_volumeOf := goodIn_r _ [14, 1, 56, 57, 58, 59, 60, 61] rfl (by decide +kernel)
set_option maxRecDepth 20000 in
theorem gX3_influx_X3_volumeOf : GoodIn wsX3_influx (wsV RX3 37 RX3 yX3_volumeOf wsX3_volumeOf) := goodIn_app (goodIn_of _ (by decide +kernel)) ggX3_influx_X3_volumeOf
set_option maxRecDepth 20000 in
theorem ggX3_influx_X3_save : GoodIn wsX3_influx wsX3_save := goodIn_r _ [18, 19, 20, 1, 21, 22, 4, 23, 56, 57, 58, 59, 60, 61] rfl (by decide +kernel)
set_option maxRecDepth 20000 in
theorem gX3_influx_X3_save : GoodIn wsX3_influx (wsV RX3 79 RX3 yX3_save wsX3_save) := goodIn_app (goodIn_of _ (by decide +kernel)) ggX3_influx_X3_save
set_option maxRecDepth 20000 in
theorem ggX3_influx_X3_enter : GoodIn wsX3_influx wsX3_enter := goodIn_r _ [27, 1, 28, 29, 4, 30, 31, 32, 33, 56, 57, 58, 59, 60, 61] rfl (by decide +kernel)
set_option maxRecDepth 20000 in
theorem gX3_influx_X3_enter : GoodIn wsX3_influx (wsV RX3 44 RX3 yX3_enter wsX3_enter) := goodIn_app (goodIn_of _ (by decide +kernel)) ggX3_influx_X3_enter
set_option maxRecDepth 20000 in
theorem ggX3_influx_X3_leave : GoodIn wsX3_influx wsX3_leave := goodIn_r _ [37, 1, 31, 32, 4, 33, 28, 29, 30, 56, 57, 58, 59, 60, 61] rfl (by decide +kernel)
set_option maxRecDepth 20000 in
theorem gX3_influx_X3_leave : GoodIn wsX3_influx (wsV RX3 55 RX3 yX3_leave wsX3_leave) := goodIn_app (goodIn_of _ (by decide +kernel)) ggX3_influx_X3_leave
set_option maxRecDepth 20000 in
theorem ggX3_influx_X3_check : GoodIn wsX3_influx wsX3_check := goodIn_r _ [41, 1, 42, 43, 44, 4, 45, 46, 47, 48, 49, 50, 51, 52, 53, 54, 55, 31, 32, 33, 28, 29, 30, 56, 57, 58, 59, 60, 61] rfl (by decide +kernel)
set_option maxRecDepth 20000 in
theorem gX3_influx_X3_check : GoodIn wsX3_influx (wsV RX3 90 RX3 yX3_check wsX3_check) := goodIn_app (goodIn_of _ (by decide +kernel)) ggX3_influx_X3_check
set_option maxRecDepth 20000 in
theorem ggX3_influx_X3_lacking : GoodIn wsX3_influx wsX3_lacking := goodIn_r _ [49, 1, 50, 51, 52, 4, 53, 54, 55, 31, 32, 33, 28, 29, 30, 56, 57, 58, 59, 60, 61] rfl (by decide +kernel)
set_option maxRecDepth 20000 in
theorem gX3_influx_X3_lacking : GoodIn wsX3_influx (wsV RX3 65 RX3 yX3_lacking wsX3_lacking) := goodIn_app (goodIn_of _ (by decide +kernel)) ggX3_influx_X3_lacking
set_option maxRecDepth 20000 in
theorem ggX3_isColumn_X3_in : GoodIn wsX3_isColumn wsX3_in := goodIn_r _ [4] rfl (by decide +kernel)
set_option maxRecDepth 20000 in
theorem gX3_isColumn_X3_in : GoodIn wsX3_isColumn (va_wsS RX3 72 yX3_in wsX3_in) := goodIn_app (goodIn_of _ (by decide +kernel)) ggX3_isColumn_X3_in
set_option maxRecDepth 20000 in
theorem ggX3_hydrostatic_X3_isColumn : GoodIn wsX3_hydrostatic wsX3_isColumn := goodIn_r _ [5, 6, 7, 4, 8] rfl (by decide +kernel)
set_option maxRecDepth 20000 in
theorem gX3_hydrostatic_X3_isColumn : GoodIn wsX3_hydrostatic (va_wsS RX3 93 yX3_isColumn wsX3_isColumn) := goodIn_app (goodIn_of _ (by decide +kernel)) ggX3_hydrostatic_X3_isColumn
set_option maxRecDepth 20000 in
theorem ggX3_hydrostatic_X3_pressureOf : GoodIn wsX3_hydrostatic wsX3_pressureOf := goodIn_r _ [12, 1, 13, 14, 15, 16, 4, 17, 18, 19, 20, 26, 27, 28, 29, 30, 31] rfl (by decide +kernel)
set_option maxRecDepth 20000 in
theorem gX3_hydrostatic_X3_pressureOf : GoodIn wsX3_hydrostatic (wsV RX3 62 RX3 yX3_pressureOf wsX3_pressureOf) := goodIn_app (goodIn_of _ (by decide +kernel)) ggX3_hydrostatic_X3_pressureOf
set_option maxRecDepth 20000 in
theorem ggX3_hydrostatic_X3_error : GoodIn wsX3_hydrostatic wsX3_error := goodIn_r _ [24, 25, 26, 27, 28, 29, 30, 31] rfl (by decide +kernel)
set_option maxRecDepth 20000 in
theorem gX3_hydrostatic_X3_error : GoodIn wsX3_hydrostatic (wsV RX3 76 RX3 yX3_error wsX3_error) := goodIn_app (goodIn_of _ (by decide +kernel)) ggX3_hydrostatic_X3_error
set_option maxRecDepth 20000 in
theorem ggX3_hydrostaticAbove_X3_isColumn : GoodIn wsX3_hydrostaticAbove wsX3_isColumn := goodIn_r _ [5, 6, 7, 4, 8] rfl (by decide +kernel)
set_option maxRecDepth 20000 in
theorem gX3_hydrostaticAbove_X3_isColumn : GoodIn wsX3_hydrostaticAbove (va_wsS RX3 93 yX3_isColumn wsX3_isColumn) := goodIn_app (goodIn_of _ (by decide +kernel)) ggX3_hydrostaticAbove_X3_isColumn
set_option maxRecDepth 20000 in
theorem ggX3_hydrostaticAbove_X3_in : GoodIn wsX3_hydrostaticAbove wsX3_in := goodIn_r _ [8] rfl (by decide +kernel)
set_option maxRecDepth 20000 in
theorem gX3_hydrostaticAbove_X3_in : GoodIn wsX3_hydrostaticAbove (va_wsS RX3 72 yX3_in wsX3_in) := goodIn_app (goodIn_of _ (by decide +kernel)) ggX3_hydrostaticAbove_X3_in
set_option maxRecDepth 20000 in
theorem ggX3_hydrostaticAbove_X3_pressureOf : GoodIn wsX3_hydrostaticAbove wsX3_pressureOf := goodIn_r _ [12, 1, 13, 14, 15, 16, 4, 17, 18, 19, 20, 26, 27, 28, 29, 30, 31] rfl (by decide +kernel)
set_option maxRecDepth 20000 in
theorem gX3_hydrostaticAbove_X3_pressureOf : GoodIn wsX3_hydrostaticAbove (wsV RX3 62 RX3 yX3_pressureOf wsX3_pressureOf) := goodIn_app (goodIn_of _ (by decide +kernel)) ggX3_hydrostaticAbove_X3_pressureOf
set_option maxRecDepth 20000 in
theorem ggX3_hydrostaticAbove_X3_error : GoodIn wsX3_hydrostaticAbove wsX3_error := goodIn_r _ [24, 25, 26, 27, 28, 29, 30, 31] rfl (by decide +kernel)
set_option maxRecDepth 20000 in
theorem gX3_hydrostaticAbove_X3_error : GoodIn wsX3_hydrostaticAbove (wsV RX3 76 RX3 yX3_error wsX3_error) := goodIn_app (goodIn_of _ (by decide +kernel)) ggX3_hydrostaticAbove_X3_error
set_option maxRecDepth 20000 in
theorem ggX3_drillPipePressure_X3_lacking : GoodIn wsX3_drillPipePressure wsX3_lacking := goodIn_r _ [5, 6, 7, 8, 9, 4, 10, 11, 12, 13, 14, 15, 16, 17, 18, 19, 20, 21, 22, 23, 24] rfl (by decide +kernel)
set_option maxRecDepth 20000 in
theorem gX3_drillPipePressure_X3_lacking : GoodIn wsX3_drillPipePressure (wsV RX3 65 RX3 yX3_lacking wsX3_lacking) := goodIn_app (goodIn_of _ (by decide +kernel)) ggX3_drillPipePressure_X3_lacking
set_option maxRecDepth 20000 in
theorem ggX3_casingPressure_X3_lacking : GoodIn wsX3_casingPressure wsX3_lacking := goodIn_r _ [5, 6, 7, 8, 9, 4, 10, 11, 12, 13, 14, 15, 16, 17, 18, 19, 20, 21, 22, 23, 24] rfl (by decide +kernel)
set_option maxRecDepth 20000 in
theorem gX3_casingPressure_X3_lacking : GoodIn wsX3_casingPressure (wsV RX3 65 RX3 yX3_lacking wsX3_lacking) := goodIn_app (goodIn_of _ (by decide +kernel)) ggX3_casingPressure_X3_lacking
set_option maxRecDepth 20000 in
theorem ggX3_standpipePressure_X3_lacking : GoodIn wsX3_standpipePressure wsX3_lacking := goodIn_r _ [6, 1, 7, 8, 9, 5, 10, 11, 12, 13, 14, 15, 16, 17, 18, 19, 20, 21, 22, 23, 24] rfl (by decide +kernel)
set_option maxRecDepth 20000 in
theorem gX3_standpipePressure_X3_lacking : GoodIn wsX3_standpipePressure (wsV RX3 65 RX3 yX3_lacking wsX3_lacking) := goodIn_app (goodIn_of _ (by decide +kernel)) ggX3_standpipePressure_X3_lacking
set_option maxRecDepth 20000 in
theorem ggX3_shoePressure_X3_atShoe : GoodIn wsX3_shoePressure wsX3_atShoe := goodIn_r _ [5, 6, 7, 8, 9, 4, 10, 11, 12, 13, 14, 15, 16, 17, 18, 19, 20, 21, 22, 23, 24, 25, 26, 27, 28] rfl (by decide +kernel)
set_option maxRecDepth 20000 in
theorem gX3_shoePressure_X3_atShoe : GoodIn wsX3_shoePressure (wsV RX3 68 RX3 yX3_atShoe wsX3_atShoe) := goodIn_app (goodIn_of _ (by decide +kernel)) ggX3_shoePressure_X3_atShoe
set_option maxRecDepth 20000 in
theorem ggX3_allowedCasingPressure_X3_pressureOf : GoodIn wsX3_allowedCasingPressure wsX3_pressureOf := goodIn_r _ [6, 1, 7, 8, 9, 10, 5, 11, 12, 13, 14, 15, 16, 17, 18, 19, 20] rfl (by decide +kernel)
set_option maxRecDepth 20000 in
theorem gX3_allowedCasingPressure_X3_pressureOf : GoodIn wsX3_allowedCasingPressure (wsV RX3 62 RX3 yX3_pressureOf wsX3_pressureOf) := goodIn_app (goodIn_of _ (by decide +kernel)) ggX3_allowedCasingPressure_X3_pressureOf
set_option maxRecDepth 20000 in
theorem ggX3_leastDensity_X3_volumeOf : GoodIn wsX3_leastDensity wsX3_volumeOf := goodIn_r _ [8, 3, 9, 10, 11, 12, 13, 14] rfl (by decide +kernel)
set_option maxRecDepth 20000 in
theorem gX3_leastDensity_X3_volumeOf : GoodIn wsX3_leastDensity (wsV RX3 37 RX3 yX3_volumeOf wsX3_volumeOf) := goodIn_app (goodIn_of _ (by decide +kernel)) ggX3_leastDensity_X3_volumeOf
set_option maxRecDepth 20000 in
theorem ggX3_killDensity_X3_leastDensity : GoodIn wsX3_killDensity wsX3_leastDensity := goodIn_r _ [5, 6, 7, 8, 9, 10, 11, 4, 12, 18, 19, 20, 21, 22, 23] rfl (by decide +kernel)
set_option maxRecDepth 20000 in
theorem gX3_killDensity_X3_leastDensity : GoodIn wsX3_killDensity (wsV RX3 97 RX3 yX3_leastDensity wsX3_leastDensity) := goodIn_app (goodIn_of _ (by decide +kernel)) ggX3_killDensity_X3_leastDensity
set_option maxRecDepth 20000 in
theorem ggX3_killDensity_X3_error : GoodIn wsX3_killDensity wsX3_error := goodIn_r _ [16, 17, 18, 19, 20, 21, 22, 23] rfl (by decide +kernel)
set_option maxRecDepth 20000 in
theorem gX3_killDensity_X3_error : GoodIn wsX3_killDensity (wsV RX3 76 RX3 yX3_error wsX3_error) := goodIn_app (goodIn_of _ (by decide +kernel)) ggX3_killDensity_X3_error
set_option maxRecDepth 20000 in
theorem ggX3_pumpAll_X3_pumpMud : GoodIn wsX3_pumpAll wsX3_pumpMud := goodIn_r _ [5, 6, 7, 8, 4, 9, 10, 11, 12, 13, 14, 15, 16, 17, 18, 19, 20, 21, 22, 23, 24, 25, 26, 27, 28, 43, 44, 45, 46, 47, 48] rfl (by decide +kernel)
set_option maxRecDepth 20000 in
theorem gX3_pumpAll_X3_pumpMud : GoodIn wsX3_pumpAll (wsV RX3 87 RX3 yX3_pumpMud wsX3_pumpMud) := goodIn_app (goodIn_of _ (by decide +kernel)) ggX3_pumpAll_X3_pumpMud
set_option maxRecDepth 20000 in
theorem ggX3_pumpAll_X3_atShoe : GoodIn wsX3_pumpAll wsX3_atShoe := goodIn_r _ [32, 10, 33, 34, 35, 4, 36, 37, 38, 39, 40, 41, 42, 14, 15, 16, 11, 12, 13, 43, 44, 45, 46, 47, 48] rfl (by decide +kernel)
set_option maxRecDepth 20000 in
theorem gX3_pumpAll_X3_atShoe : GoodIn wsX3_pumpAll (wsV RX3 68 RX3 yX3_atShoe wsX3_atShoe) := goodIn_app (goodIn_of _ (by decide +kernel)) ggX3_pumpAll_X3_atShoe
set_option maxRecDepth 20000 in
theorem ggX3_killShoePressure_X3_in : GoodIn wsX3_killShoePressure wsX3_in := goodIn_r _ [6] rfl (by decide +kernel)
set_option maxRecDepth 20000 in
theorem gX3_killShoePressure_X3_in : GoodIn wsX3_killShoePressure (va_wsS RX3 72 yX3_in wsX3_in) := goodIn_app (goodIn_of _ (by decide +kernel)) ggX3_killShoePressure_X3_in
set_option maxRecDepth 20000 in
theorem ggX3_killShoePressure_X3_error : GoodIn wsX3_killShoePressure wsX3_error := goodIn_r _ [10, 11, 67, 68, 69, 70, 71, 72] rfl (by decide +kernel)
set_option maxRecDepth 20000 in
theorem gX3_killShoePressure_X3_error : GoodIn wsX3_killShoePressure (wsV RX3 76 RX3 yX3_error wsX3_error) := goodIn_app (goodIn_of _ (by decide +kernel)) ggX3_killShoePressure_X3_error
set_option maxRecDepth 20000 in
theorem ggX3_killShoePressure_X3_volumeOf : GoodIn wsX3_killShoePressure wsX3_volumeOf := goodIn_r _ [15, 1, 67, 68, 69, 70, 71, 72] rfl (by decide +kernel)
set_option maxRecDepth 20000 in
theorem gX3_killShoePressure_X3_volumeOf : GoodIn wsX3_killShoePressure (wsV RX3 37 RX3 yX3_volumeOf wsX3_volumeOf) := goodIn_app (goodIn_of _ (by decide +kernel)) ggX3_killShoePressure_X3_volumeOf
set_option maxRecDepth 20000 in
theorem ggX3_killShoePressure_X3_leastDensity : GoodIn wsX3_killShoePressure wsX3_leastDensity := goodIn_r _ [19, 20, 21, 1, 12, 13, 14, 5, 15, 67, 68, 69, 70, 71, 72] rfl (by decide +kernel)
set_option maxRecDepth 20000 in
theorem gX3_killShoePressure_X3_leastDensity : GoodIn wsX3_killShoePressure (wsV RX3 97 RX3 yX3_leastDensity wsX3_leastDensity) := goodIn_app (goodIn_of _ (by decide +kernel)) ggX3_killShoePressure_X3_leastDensity
set_option maxRecDepth 20000 in
theorem ggX3_killShoePressure_X3_copy : GoodIn wsX3_killShoePressure wsX3_copy := goodIn_r _ [24] rfl (by decide +kernel)
set_option maxRecDepth 20000 in
theorem gX3_killShoePressure_X3_copy : GoodIn wsX3_killShoePressure (va_wsS RX3 29 yX3_copy wsX3_copy) := goodIn_app (goodIn_of _ (by decide +kernel)) ggX3_killShoePressure_X3_copy
set_option maxRecDepth 20000 in
theorem ggX3_killShoePressure_X3_pumpAll : GoodIn wsX3_killShoePressure wsX3_pumpAll := goodIn_r _ [28, 29, 30, 31, 5, 32, 33, 34, 35, 36, 1, 37, 38, 39, 40, 41, 42, 43, 44, 45, 46, 47, 48, 49, 50, 51, 52, 53, 54, 55, 56, 57, 58, 59, 60, 61, 62, 63, 64, 65, 66, 20, 21, 67, 68, 69, 70, 71, 72] rfl (by decide +kernel)
set_option maxRecDepth 20000 in
theorem gX3_killShoePressure_X3_pumpAll : GoodIn wsX3_killShoePressure (wsV RX3 100 RX3 yX3_pumpAll wsX3_pumpAll) := goodIn_app (goodIn_of _ (by decide +kernel)) ggX3_killShoePressure_X3_pumpAll
set_option maxRecDepth 20000 in
theorem ggX3_schedule_X3_in : GoodIn wsX3_schedule wsX3_in := goodIn_r _ [6] rfl (by decide +kernel)
set_option maxRecDepth 20000 in
theorem gX3_schedule_X3_in : GoodIn wsX3_schedule (va_wsS RX3 72 yX3_in wsX3_in) := goodIn_app (goodIn_of _ (by decide +kernel)) ggX3_schedule_X3_in
set_option maxRecDepth 20000 in
theorem ggX3_schedule_X3_error : GoodIn wsX3_schedule wsX3_error := goodIn_r _ [10, 11, 36, 37, 38, 39, 40, 41] rfl (by decide +kernel)
set_option maxRecDepth 20000 in
theorem gX3_schedule_X3_error : GoodIn wsX3_schedule (wsV RX3 76 RX3 yX3_error wsX3_error) := goodIn_app (goodIn_of _ (by decide +kernel)) ggX3_schedule_X3_error
set_option maxRecDepth 20000 in
theorem ggX3_schedule_X3_leastDensity : GoodIn wsX3_schedule wsX3_leastDensity := goodIn_r _ [15, 16, 17, 1, 18, 19, 20, 5, 21, 36, 37, 38, 39, 40, 41] rfl (by decide +kernel)
set_option maxRecDepth 20000 in
theorem gX3_schedule_X3_leastDensity : GoodIn wsX3_schedule (wsV RX3 97 RX3 yX3_leastDensity wsX3_leastDensity) := goodIn_app (goodIn_of _ (by decide +kernel)) ggX3_schedule_X3_leastDensity
set_option maxRecDepth 20000 in
theorem ggX3_schedule_X3_lacking : GoodIn wsX3_schedule wsX3_lacking := goodIn_r _ [25, 1, 26, 27, 28, 5, 29, 16, 17, 30, 31, 32, 33, 34, 35, 36, 37, 38, 39, 40, 41] rfl (by decide +kernel)
set_option maxRecDepth 20000 in
theorem gX3_schedule_X3_lacking : GoodIn wsX3_schedule (wsV RX3 65 RX3 yX3_lacking wsX3_lacking) := goodIn_app (goodIn_of _ (by decide +kernel)) ggX3_schedule_X3_lacking
set_option maxRecDepth 20000 in
theorem ggX3_strokesToBit_X3_in : GoodIn wsX3_strokesToBit wsX3_in := goodIn_r _ [4] rfl (by decide +kernel)
set_option maxRecDepth 20000 in
theorem gX3_strokesToBit_X3_in : GoodIn wsX3_strokesToBit (va_wsS RX3 72 yX3_in wsX3_in) := goodIn_app (goodIn_of _ (by decide +kernel)) ggX3_strokesToBit_X3_in
set_option maxRecDepth 20000 in
theorem ggX3_strokesToBit_X3_volumeOf : GoodIn wsX3_strokesToBit wsX3_volumeOf := goodIn_r _ [8, 9, 15, 16, 17, 18, 19, 20] rfl (by decide +kernel)
set_option maxRecDepth 20000 in
theorem gX3_strokesToBit_X3_volumeOf : GoodIn wsX3_strokesToBit (wsV RX3 37 RX3 yX3_volumeOf wsX3_volumeOf) := goodIn_app (goodIn_of _ (by decide +kernel)) ggX3_strokesToBit_X3_volumeOf
set_option maxRecDepth 20000 in
theorem ggX3_strokesToBit_X3_error : GoodIn wsX3_strokesToBit wsX3_error := goodIn_r _ [13, 14, 15, 16, 17, 18, 19, 20] rfl (by decide +kernel)
set_option maxRecDepth 20000 in
theorem gX3_strokesToBit_X3_error : GoodIn wsX3_strokesToBit (wsV RX3 76 RX3 yX3_error wsX3_error) := goodIn_app (goodIn_of _ (by decide +kernel)) ggX3_strokesToBit_X3_error
set_option maxRecDepth 20000 in
theorem ggX3_layers_X3_isColumn : GoodIn wsX3_layers wsX3_isColumn := goodIn_r _ [5, 6, 7, 4, 8] rfl (by decide +kernel)
set_option maxRecDepth 20000 in
theorem gX3_layers_X3_isColumn : GoodIn wsX3_layers (va_wsS RX3 93 yX3_isColumn wsX3_isColumn) := goodIn_app (goodIn_of _ (by decide +kernel)) ggX3_layers_X3_isColumn
set_option maxRecDepth 20000 in
theorem ggX3_layers_X3_error : GoodIn wsX3_layers wsX3_error := goodIn_r _ [12, 13, 14, 15, 16, 17, 18, 19] rfl (by decide +kernel)
set_option maxRecDepth 20000 in
theorem gX3_layers_X3_error : GoodIn wsX3_layers (wsV RX3 76 RX3 yX3_error wsX3_error) := goodIn_app (goodIn_of _ (by decide +kernel)) ggX3_layers_X3_error
set_option maxRecDepth 20000 in
theorem ggX3_ofLayer_X3_isColumn : GoodIn wsX3_ofLayer wsX3_isColumn := goodIn_r _ [5, 6, 7, 4, 8] rfl (by decide +kernel)
set_option maxRecDepth 20000 in
theorem gX3_ofLayer_X3_isColumn : GoodIn wsX3_ofLayer (va_wsS RX3 93 yX3_isColumn wsX3_isColumn) := goodIn_app (goodIn_of _ (by decide +kernel)) ggX3_ofLayer_X3_isColumn
set_option maxRecDepth 20000 in
theorem ggX3_ofLayer_X3_error : GoodIn wsX3_ofLayer wsX3_error := goodIn_r _ [12, 13, 17, 18, 19, 20, 21, 22] rfl (by decide +kernel)
set_option maxRecDepth 20000 in
theorem gX3_ofLayer_X3_error : GoodIn wsX3_ofLayer (wsV RX3 76 RX3 yX3_error wsX3_error) := goodIn_app (goodIn_of _ (by decide +kernel)) ggX3_ofLayer_X3_error
set_option maxRecDepth 20000 in
theorem ggX3_ofLayer_X3_volumeAt : GoodIn wsX3_ofLayer wsX3_volumeAt := goodIn_r _ [16] rfl (by decide +kernel)
set_option maxRecDepth 20000 in
theorem gX3_ofLayer_X3_volumeAt : GoodIn wsX3_ofLayer (va_wsS RX3 33 yX3_volumeAt wsX3_volumeAt) := goodIn_app (goodIn_of _ (by decide +kernel)) ggX3_ofLayer_X3_volumeAt
set_option maxRecDepth 20000 in
theorem ggX3_layerVolume_X3_ofLayer : GoodIn wsX3_layerVolume wsX3_ofLayer := goodIn_r _ [5, 6, 7, 8, 4, 9, 10, 11, 12, 13, 14, 15, 16, 17, 18, 19, 20, 21, 22, 23, 24, 25, 26] rfl (by decide +kernel)
set_option maxRecDepth 20000 in
theorem gX3_layerVolume_X3_ofLayer : GoodIn wsX3_layerVolume (wsV RX3 105 RX3 yX3_ofLayer wsX3_ofLayer) := goodIn_app (goodIn_of _ (by decide +kernel)) ggX3_layerVolume_X3_ofLayer
set_option maxRecDepth 20000 in
theorem ggX3_layerDensity_X3_ofLayer : GoodIn wsX3_layerDensity wsX3_ofLayer := goodIn_r _ [5, 6, 7, 8, 4, 9, 10, 11, 12, 13, 14, 15, 16, 17, 18, 19, 20, 21, 22, 23, 24, 25, 26] rfl (by decide +kernel)
set_option maxRecDepth 20000 in
theorem gX3_layerDensity_X3_ofLayer : GoodIn wsX3_layerDensity (wsV RX3 105 RX3 yX3_ofLayer wsX3_ofLayer) := goodIn_app (goodIn_of _ (by decide +kernel)) ggX3_layerDensity_X3_ofLayer
set_option maxRecDepth 20000 in
theorem ggX3_undo_X3_error : GoodIn wsX3_undo wsX3_error := goodIn_r _ [8, 9, 13, 14, 15, 16, 17, 18] rfl (by decide +kernel)
set_option maxRecDepth 20000 in
theorem gX3_undo_X3_error : GoodIn wsX3_undo (wsV RX3 76 RX3 yX3_error wsX3_error) := goodIn_app (goodIn_of _ (by decide +kernel)) ggX3_undo_X3_error
set_option maxRecDepth 20000 in
theorem ggX3_undo_X3_copy : GoodIn wsX3_undo wsX3_copy := goodIn_r _ [12] rfl (by decide +kernel)
set_option maxRecDepth 20000 in
theorem gX3_undo_X3_copy : GoodIn wsX3_undo (va_wsS RX3 29 yX3_copy wsX3_copy) := goodIn_app (goodIn_of _ (by decide +kernel)) ggX3_undo_X3_copy
set_option maxRecDepth 20000 in
theorem ggX3_errorCount_X3_in : GoodIn wsX3_errorCount wsX3_in := goodIn_r _ [5] rfl (by decide +kernel)
set_option maxRecDepth 20000 in
theorem gX3_errorCount_X3_in : GoodIn wsX3_errorCount (va_wsS RX3 72 yX3_in wsX3_in) := goodIn_app (goodIn_of _ (by decide +kernel)) ggX3_errorCount_X3_in
set_option maxRecDepth 20000 in
theorem ggX3_errorCount_X3_error : GoodIn wsX3_errorCount wsX3_error := goodIn_r _ [9, 1, 10, 11, 12, 13, 14, 15] rfl (by decide +kernel)
set_option maxRecDepth 20000 in
theorem gX3_errorCount_X3_error : GoodIn wsX3_errorCount (wsV RX3 76 RX3 yX3_error wsX3_error) := goodIn_app (goodIn_of _ (by decide +kernel)) ggX3_errorCount_X3_error
set_option maxRecDepth 20000 in
theorem ggX3_digest_X3_mix : GoodIn wsX3_digest wsX3_mix := goodIn_r _ [10, 11, 2, 32, 33, 34, 35, 36, 37] rfl (by decide +kernel)
set_option maxRecDepth 20000 in
theorem gX3_digest_X3_mix : GoodIn wsX3_digest (wsV RX3 117 RX3 yX3_mix wsX3_mix) := goodIn_app (goodIn_of _ (by decide +kernel)) ggX3_digest_X3_mix
set_option maxRecDepth 20000 in
theorem ggX3_digest_X3_volumeAt : GoodIn wsX3_digest wsX3_volumeAt := goodIn_r _ [14] rfl (by decide +kernel)
set_option maxRecDepth 20000 in
theorem gX3_digest_X3_volumeAt : GoodIn wsX3_digest (va_wsS RX3 33 yX3_volumeAt wsX3_volumeAt) := goodIn_app (goodIn_of _ (by decide +kernel)) ggX3_digest_X3_volumeAt
set_option maxRecDepth 20000 in
theorem ggX3_digest_X3_densityAt : GoodIn wsX3_digest wsX3_densityAt := goodIn_r _ [17, 12, 13, 9, 14] rfl (by decide +kernel)
set_option maxRecDepth 20000 in
theorem gX3_digest_X3_densityAt : GoodIn wsX3_digest (va_wsS RX3 41 yX3_densityAt wsX3_densityAt) := goodIn_app (goodIn_of _ (by decide +kernel)) ggX3_digest_X3_densityAt
set_option maxRecDepth 20000 in
theorem ggX3_digest_X3_lacking : GoodIn wsX3_digest wsX3_lacking := goodIn_r _ [21, 4, 22, 23, 24, 9, 25, 26, 27, 12, 13, 14, 15, 16, 17, 32, 33, 34, 35, 36, 37] rfl (by decide +kernel)
set_option maxRecDepth 20000 in
theorem gX3_digest_X3_lacking : GoodIn wsX3_digest (wsV RX3 65 RX3 yX3_lacking wsX3_lacking) := goodIn_app (goodIn_of _ (by decide +kernel)) ggX3_digest_X3_lacking
set_option maxRecDepth 20000 in
theorem ggX3_digest_X3_atShoe : GoodIn wsX3_digest wsX3_atShoe := goodIn_r _ [31, 4, 18, 19, 20, 9, 21, 22, 23, 24, 25, 26, 27, 12, 13, 14, 15, 16, 17, 32, 33, 34, 35, 36, 37] rfl (by decide +kernel)
set_option maxRecDepth 20000 in
theorem gX3_digest_X3_atShoe : GoodIn wsX3_digest (wsV RX3 68 RX3 yX3_atShoe wsX3_atShoe) := goodIn_app (goodIn_of _ (by decide +kernel)) ggX3_digest_X3_atShoe
end
section
set_option maxRecDepth 20000 in
theorem ggL_law_X2_init : GoodIn wsL_law wsX2_init := goodIn_r _ [8, 9, 10, 11, 12, 13, 14, 15, 16, 17, 18, 19, 20, 21, 22, 23, 24, 25, 26, 27, 28, 29, 30, 31, 32, 33, 34, 35, 36, 37, 38, 39, 40, 41, 42, 43, 44, 45, 46, 47, 48, 49, 50, 51, 52, 53, 54, 55, 56, 57, 58, 59, 60, 61, 62, 63, 64, 65, 66, 67, 68, 69, 70, 71, 72, 73, 74, 75, 76, 77, 78, 79, 80, 81, 82, 592, 593, 594, 595, 596, 597, 598, 599, 600, 601, 602, 603, 604, 581, 582, 583, 584, 585, 605, 606, 607, 608, 609, 610] rfl (by decide +kernel)
set_option maxRecDepth 20000 in
theorem gL_law_X2_init : GoodIn wsL_law (wsX2_init) := ggL_law_X2_init
set_option maxRecDepth 20000 in
theorem ggL_law_X3_init : GoodIn wsL_law wsX3_init := goodIn_r _ [85, 86, 10, 11, 19, 87, 88, 89, 90, 91, 92, 93, 5, 94, 95, 96, 97, 98, 99, 100, 101, 102, 103, 104, 586, 587, 588, 589, 590, 591] rfl (by decide +kernel)
set_option maxRecDepth 20000 in
theorem gL_law_X3_init : GoodIn wsL_law (wsX3_init) := ggL_law_X3_init
set_option maxRecDepth 20000 in
theorem ggL_law_X2_setGeometry : GoodIn wsL_law wsX2_setGeometry := goodIn_r _ [108, 15, 109, 110, 111, 112, 113, 114, 2, 115, 116, 117, 118, 119, 20, 120, 121, 122, 123, 18, 17, 124, 125, 126, 127, 128, 129, 130, 14, 131, 25, 26, 27, 28, 29, 30, 31, 32, 49, 50, 51, 36, 37, 132, 133, 134, 35, 135, 57, 42, 43, 136, 53, 54, 55, 56, 58, 71, 72, 73, 74, 75, 76, 77, 78, 137, 64, 65, 66, 67, 68, 69, 70, 138, 46, 47, 48, 52, 59, 60, 61, 62, 63, 79, 80, 81, 82, 139, 140, 581, 582, 583, 584, 585, 592, 593, 594, 595, 596, 597, 598, 599, 600, 601, 602, 603, 604, 605, 606, 607, 608, 609, 610] rfl (by decide +kernel)
set_option maxRecDepth 20000 in
theorem gL_law_X2_setGeometry : GoodIn wsL_law (wsV RL 13 RX2 yX2_setGeometry wsX2_setGeometry) := goodIn_app (goodIn_of _ (by decide +kernel)) ggL_law_X2_setGeometry
set_option maxRecDepth 20000 in
theorem ggL_law_X3_setGeometry : GoodIn wsL_law wsX3_setGeometry := goodIn_r _ [144, 87, 145, 146, 5, 147, 148, 149, 150, 151, 90, 152, 153, 154, 155, 156, 89, 157, 158, 159, 91, 92, 93, 94, 95, 96, 97, 98, 99, 100, 101, 102, 103, 104, 586, 587, 588, 589, 590, 591] rfl (by decide +kernel)
set_option maxRecDepth 20000 in
theorem gL_law_X3_setGeometry : GoodIn wsL_law (wsV RL 17 RX3 yX3_setGeometry wsX3_setGeometry) := goodIn_app (goodIn_of _ (by decide +kernel)) ggL_law_X3_setGeometry
set_option maxRecDepth 20000 in
theorem ggL_law_X2_setMud : GoodIn wsL_law wsX2_setMud := goodIn_r _ [163, 15, 164, 113, 114, 2, 115, 116, 117, 118, 119, 20, 120, 121, 122, 123, 18, 17, 124, 125, 126, 127, 128, 129, 130, 14, 131, 25, 26, 27, 28, 29, 30, 31, 32, 49, 50, 51, 36, 37, 132, 133, 134, 35, 135, 57, 42, 43, 136, 53, 54, 55, 56, 58, 71, 72, 73, 74, 75, 76, 77, 78, 137, 64, 65, 66, 67, 68, 69, 70, 581, 582, 583, 584, 585, 592, 593, 594, 595, 596, 597, 598, 599, 600, 601, 602, 603, 604, 605, 606, 607, 608, 609, 610] rfl (by decide +kernel)
set_option maxRecDepth 20000 in
theorem gL_law_X2_setMud : GoodIn wsL_law (wsV RL 18 RX2 yX2_setMud wsX2_setMud) := goodIn_app (goodIn_of _ (by decide +kernel)) ggL_law_X2_setMud
set_option maxRecDepth 20000 in
theorem ggL_law_X3_setMud : GoodIn wsL_law wsX3_setMud := goodIn_r _ [168, 169, 170, 171, 5, 172, 87, 145, 146, 147, 148, 149, 150, 151, 90, 152, 153, 154, 155, 156, 89, 157, 158, 159, 586, 587, 588, 589, 590, 591] rfl (by decide +kernel)
set_option maxRecDepth 20000 in
theorem gL_law_X3_setMud : GoodIn wsL_law (wsV RL 22 RX3 yX3_setMud wsX3_setMud) := goodIn_app (goodIn_of _ (by decide +kernel)) ggL_law_X3_setMud
set_option maxRecDepth 20000 in
theorem ggL_law_X2_setFormation : GoodIn wsL_law wsX2_setFormation := goodIn_r _ [176, 177, 15, 178, 113, 114, 2, 115, 116, 117, 118, 119, 20, 120, 121, 122, 123, 18, 17, 124, 125, 126, 127, 128, 129, 130, 14, 131, 25, 26, 27, 28, 29, 30, 31, 32, 49, 50, 51, 36, 37, 132, 133, 134, 35, 135, 57, 42, 43, 136, 53, 54, 55, 56, 58, 71, 72, 73, 74, 75, 76, 77, 78, 137, 64, 65, 66, 67, 68, 69, 70, 581, 582, 583, 584, 585, 592, 593, 594, 595, 596, 597, 598, 599, 600, 601, 602, 603, 604, 605, 606, 607, 608, 609, 610] rfl (by decide +kernel)
set_option maxRecDepth 20000 in
theorem gL_law_X2_setFormation : GoodIn wsL_law (wsV RL 23 RX2 yX2_setFormation wsX2_setFormation) := goodIn_app (goodIn_of _ (by decide +kernel)) ggL_law_X2_setFormation
set_option maxRecDepth 20000 in
theorem ggL_law_X3_setFormation : GoodIn wsL_law wsX3_setFormation := goodIn_r _ [182, 183, 169, 170, 171, 5, 172, 87, 145, 146, 147, 148, 149, 150, 151, 90, 152, 153, 154, 155, 156, 89, 157, 158, 159, 586, 587, 588, 589, 590, 591] rfl (by decide +kernel)
set_option maxRecDepth 20000 in
theorem gL_law_X3_setFormation : GoodIn wsL_law (wsV RL 26 RX3 yX3_setFormation wsX3_setFormation) := goodIn_app (goodIn_of _ (by decide +kernel)) ggL_law_X3_setFormation
set_option maxRecDepth 20000 in
theorem ggL_law_X2_setSlowPump : GoodIn wsL_law wsX2_setSlowPump := goodIn_r _ [187, 15, 188, 113, 114, 2, 115, 116, 117, 118, 119, 20, 120, 121, 122, 123, 18, 17, 124, 125, 126, 127, 128, 129, 130, 14, 131, 25, 26, 27, 28, 29, 30, 31, 32, 49, 50, 51, 36, 37, 132, 133, 134, 35, 135, 57, 42, 43, 136, 53, 54, 55, 56, 58, 71, 72, 73, 74, 75, 76, 77, 78, 137, 64, 65, 66, 67, 68, 69, 70, 581, 582, 583, 584, 585, 592, 593, 594, 595, 596, 597, 598, 599, 600, 601, 602, 603, 604, 605, 606, 607, 608, 609, 610] rfl (by decide +kernel)
set_option maxRecDepth 20000 in
theorem gL_law_X2_setSlowPump : GoodIn wsL_law (wsV RL 27 RX2 yX2_setSlowPump wsX2_setSlowPump) := goodIn_app (goodIn_of _ (by decide +kernel)) ggL_law_X2_setSlowPump
set_option maxRecDepth 20000 in
theorem ggL_law_X3_setSlowPump : GoodIn wsL_law wsX3_setSlowPump := goodIn_r _ [192, 169, 170, 171, 5, 172, 87, 145, 146, 147, 148, 149, 150, 151, 90, 152, 153, 154, 155, 156, 89, 157, 158, 159, 586, 587, 588, 589, 590, 591] rfl (by decide +kernel)
set_option maxRecDepth 20000 in
theorem gL_law_X3_setSlowPump : GoodIn wsL_law (wsV RL 30 RX3 yX3_setSlowPump wsX3_setSlowPump) := goodIn_app (goodIn_of _ (by decide +kernel)) ggL_law_X3_setSlowPump
set_option maxRecDepth 20000 in
theorem ggL_law_X2_setFracture : GoodIn wsL_law wsX2_setFracture := goodIn_r _ [196, 177, 15, 197, 113, 114, 2, 115, 116, 117, 118, 119, 20, 120, 121, 122, 123, 18, 17, 124, 125, 126, 127, 128, 129, 130, 14, 131, 25, 26, 27, 28, 29, 30, 31, 32, 49, 50, 51, 36, 37, 132, 133, 134, 35, 135, 57, 42, 43, 136, 53, 54, 55, 56, 58, 71, 72, 73, 74, 75, 76, 77, 78, 137, 64, 65, 66, 67, 68, 69, 70, 581, 582, 583, 584, 585, 592, 593, 594, 595, 596, 597, 598, 599, 600, 601, 602, 603, 604, 605, 606, 607, 608, 609, 610] rfl (by decide +kernel)
set_option maxRecDepth 20000 in
theorem gL_law_X2_setFracture : GoodIn wsL_law (wsV RL 31 RX2 yX2_setFracture wsX2_setFracture) := goodIn_app (goodIn_of _ (by decide +kernel)) ggL_law_X2_setFracture
set_option maxRecDepth 20000 in
theorem ggL_law_X3_setFracture : GoodIn wsL_law wsX3_setFracture := goodIn_r _ [201, 183, 169, 170, 171, 5, 172, 87, 145, 146, 147, 148, 149, 150, 151, 90, 152, 153, 154, 155, 156, 89, 157, 158, 159, 586, 587, 588, 589, 590, 591] rfl (by decide +kernel)
set_option maxRecDepth 20000 in
theorem gL_law_X3_setFracture : GoodIn wsL_law (wsV RL 34 RX3 yX3_setFracture wsX3_setFracture) := goodIn_app (goodIn_of _ (by decide +kernel)) ggL_law_X3_setFracture
set_option maxRecDepth 20000 in
theorem ggL_law_X2_pump : GoodIn wsL_law wsX2_pump := goodIn_r _ [205, 15, 164, 116, 117, 118, 2, 119, 20, 113, 114, 115, 206, 207, 208, 14, 209, 59, 60, 61, 62, 25, 26, 79, 80, 81, 82, 27, 120, 121, 122, 123, 18, 17, 124, 125, 126, 127, 128, 129, 130, 131, 28, 29, 30, 31, 32, 49, 50, 51, 36, 37, 132, 133, 134, 35, 135, 57, 42, 43, 136, 53, 54, 55, 56, 58, 71, 72, 73, 74, 75, 76, 77, 78, 137, 64, 65, 66, 67, 68, 69, 70, 210, 211, 212, 213, 214, 215, 216, 217, 218, 219, 220, 221, 222, 223, 224, 225, 226, 227, 228, 229, 63, 230, 231, 232, 233, 234, 235, 236, 237, 238, 239, 240, 241, 242, 243, 244, 245, 246, 247, 248, 249, 250, 251, 252, 253, 254, 255, 256, 257, 258, 259, 260, 261, 262, 263, 264, 265, 266, 267, 268, 269, 270, 271, 272, 273, 274, 44, 275, 581, 582, 583, 584, 585, 592, 593, 594, 595, 596, 597, 598, 599, 600, 601, 602, 603, 604, 605, 606, 607, 608, 609, 610] rfl (by decide +kernel)
set_option maxRecDepth 20000 in
theorem gL_law_X2_pump : GoodIn wsL_law (wsV RL 35 RX2 yX2_pump wsX2_pump) := goodIn_app (goodIn_of _ (by decide +kernel)) ggL_law_X2_pump
set_option maxRecDepth 20000 in
theorem ggL_law_X3_pump : GoodIn wsL_law wsX3_pump := goodIn_r _ [279, 87, 148, 149, 150, 5, 151, 90, 98, 99, 100, 101, 152, 153, 154, 155, 156, 89, 157, 158, 159, 280, 281, 282, 283, 284, 285, 286, 287, 102, 103, 104, 95, 96, 97, 288, 289, 290, 291, 292, 293, 294, 295, 296, 297, 298, 299, 300, 301, 302, 303, 304, 305, 306, 307, 308, 309, 310, 311, 312, 313, 314, 315, 316, 317, 586, 587, 588, 589, 590, 591] rfl (by decide +kernel)
set_option maxRecDepth 20000 in
theorem gL_law_X3_pump : GoodIn wsL_law (wsV RL 38 RX3 yX3_pump wsX3_pump) := goodIn_app (goodIn_of _ (by decide +kernel)) ggL_law_X3_pump
set_option maxRecDepth 20000 in
theorem ggL_law_X2_influx : GoodIn wsL_law wsX2_influx := goodIn_r _ [321, 15, 113, 114, 2, 115, 116, 117, 118, 119, 20, 140, 80, 81, 14, 82, 25, 27, 120, 121, 122, 123, 18, 17, 124, 125, 126, 127, 128, 129, 130, 131, 26, 28, 29, 30, 31, 32, 49, 50, 51, 36, 37, 132, 133, 134, 35, 135, 57, 42, 43, 136, 53, 54, 55, 56, 58, 71, 72, 73, 74, 75, 76, 77, 78, 137, 64, 65, 66, 67, 68, 69, 70, 322, 323, 324, 325, 214, 215, 216, 217, 218, 219, 220, 221, 222, 223, 224, 225, 63, 230, 231, 232, 233, 234, 235, 236, 237, 238, 239, 240, 241, 242, 243, 244, 245, 246, 247, 248, 249, 250, 251, 252, 253, 254, 255, 256, 257, 258, 259, 260, 261, 262, 263, 264, 265, 266, 267, 268, 269, 270, 271, 272, 273, 274, 44, 275, 581, 582, 583, 584, 585, 592, 593, 594, 595, 596, 597, 598, 599, 600, 601, 602, 603, 604, 605, 606, 607, 608, 609, 610] rfl (by decide +kernel)
set_option maxRecDepth 20000 in
theorem gL_law_X2_influx : GoodIn wsL_law (wsV RL 39 RX2 yX2_influx wsX2_influx) := goodIn_app (goodIn_of _ (by decide +kernel)) ggL_law_X2_influx
set_option maxRecDepth 20000 in
theorem ggL_law_X3_influx : GoodIn wsL_law wsX3_influx := goodIn_r _ [329, 87, 145, 146, 5, 147, 148, 149, 150, 151, 90, 98, 99, 100, 101, 152, 153, 154, 155, 156, 89, 157, 158, 159, 292, 293, 294, 295, 102, 103, 104, 95, 96, 97, 296, 297, 298, 299, 300, 301, 302, 303, 304, 305, 306, 307, 308, 309, 310, 311, 312, 313, 314, 315, 316, 317, 586, 587, 588, 589, 590, 591] rfl (by decide +kernel)
set_option maxRecDepth 20000 in
theorem gL_law_X3_influx : GoodIn wsL_law (wsV RL 43 RX3 yX3_influx wsX3_influx) := goodIn_app (goodIn_of _ (by decide +kernel)) ggL_law_X3_influx
set_option maxRecDepth 20000 in
theorem ggL_law_X2_hydrostatic : GoodIn wsL_law wsX2_hydrostatic := goodIn_r _ [333, 15, 113, 114, 2, 115, 116, 117, 118, 119, 20, 334, 246, 247, 14, 248, 249, 250, 251, 252, 253, 36, 37, 254, 255, 256, 257, 26, 27, 258, 259, 260, 261, 262, 234, 235, 224, 236, 581, 582, 583, 584, 585, 605, 606, 607, 608, 609, 610, 592, 593, 594, 595, 596, 597, 598, 599, 600, 601, 602, 603, 604] rfl (by decide +kernel)
set_option maxRecDepth 20000 in
theorem gL_law_X2_hydrostatic : GoodIn wsL_law (wsV RL 44 RX2 yX2_hydrostatic wsX2_hydrostatic) := goodIn_app (goodIn_of _ (by decide +kernel)) ggL_law_X2_hydrostatic
set_option maxRecDepth 20000 in
theorem ggL_law_X3_hydrostatic : GoodIn wsL_law wsX3_hydrostatic := goodIn_r _ [338, 87, 339, 340, 5, 341, 145, 146, 147, 312, 313, 314, 315, 316, 317, 95, 96, 97, 102, 103, 104, 148, 149, 150, 151, 90, 586, 587, 588, 589, 590, 591] rfl (by decide +kernel)
set_option maxRecDepth 20000 in
theorem gL_law_X3_hydrostatic : GoodIn wsL_law (wsV RL 47 RX3 yX3_hydrostatic wsX3_hydrostatic) := goodIn_app (goodIn_of _ (by decide +kernel)) ggL_law_X3_hydrostatic
set_option maxRecDepth 20000 in
theorem ggL_law_X2_hydrostaticAbove : GoodIn wsL_law wsX2_hydrostaticAbove := goodIn_r _ [345, 15, 109, 113, 114, 2, 115, 116, 117, 118, 119, 20, 346, 264, 265, 14, 266, 254, 255, 256, 257, 26, 27, 250, 251, 252, 253, 36, 37, 267, 268, 269, 35, 270, 57, 42, 222, 223, 224, 225, 43, 271, 272, 273, 274, 44, 56, 75, 76, 77, 78, 258, 259, 260, 261, 262, 234, 235, 236, 581, 582, 583, 584, 585, 592, 593, 594, 595, 596, 597, 598, 599, 600, 601, 602, 603, 604, 605, 606, 607, 608, 609, 610] rfl (by decide +kernel)
set_option maxRecDepth 20000 in
theorem gL_law_X2_hydrostaticAbove : GoodIn wsL_law (wsV RL 48 RX2 yX2_hydrostaticAbove wsX2_hydrostaticAbove) := goodIn_app (goodIn_of _ (by decide +kernel)) ggL_law_X2_hydrostaticAbove
set_option maxRecDepth 20000 in
theorem ggL_law_X3_hydrostaticAbove : GoodIn wsL_law wsX3_hydrostaticAbove := goodIn_r _ [350, 87, 339, 340, 5, 341, 145, 146, 147, 312, 313, 314, 315, 316, 317, 95, 96, 97, 102, 103, 104, 148, 149, 150, 151, 90, 586, 587, 588, 589, 590, 591] rfl (by decide +kernel)
set_option maxRecDepth 20000 in
theorem gL_law_X3_hydrostaticAbove : GoodIn wsL_law (wsV RL 51 RX3 yX3_hydrostaticAbove wsX3_hydrostaticAbove) := goodIn_app (goodIn_of _ (by decide +kernel)) ggL_law_X3_hydrostaticAbove
set_option maxRecDepth 20000 in
theorem ggL_law_X2_drillPipePressure : GoodIn wsL_law wsX2_drillPipePressure := goodIn_r _ [354, 15, 355, 356, 357, 14, 358, 30, 234, 235, 224, 236, 245, 246, 247, 248, 249, 250, 251, 252, 253, 36, 37, 254, 255, 256, 257, 26, 27, 258, 259, 260, 261, 262, 581, 582, 583, 584, 585, 592, 593, 594, 595, 596, 597, 598, 599, 600, 601, 602, 603, 604, 605, 606, 607, 608, 609, 610] rfl (by decide +kernel)
set_option maxRecDepth 20000 in
theorem gL_law_X2_drillPipePressure : GoodIn wsL_law (wsV RL 52 RX2 yX2_drillPipePressure wsX2_drillPipePressure) := goodIn_app (goodIn_of _ (by decide +kernel)) ggL_law_X2_drillPipePressure
set_option maxRecDepth 20000 in
theorem ggL_law_X3_drillPipePressure : GoodIn wsL_law wsX3_drillPipePressure := goodIn_r _ [362, 308, 309, 310, 5, 311, 87, 312, 313, 314, 315, 316, 317, 95, 96, 97, 102, 103, 104, 586, 587, 588, 589, 590, 591] rfl (by decide +kernel)
set_option maxRecDepth 20000 in
theorem gL_law_X3_drillPipePressure : GoodIn wsL_law (wsV RL 56 RX3 yX3_drillPipePressure wsX3_drillPipePressure) := goodIn_app (goodIn_of _ (by decide +kernel)) ggL_law_X3_drillPipePressure
set_option maxRecDepth 20000 in
theorem ggL_law_X2_casingPressure : GoodIn wsL_law wsX2_casingPressure := goodIn_r _ [366, 15, 275, 242, 243, 14, 244, 30, 234, 235, 224, 236, 245, 246, 247, 248, 249, 250, 251, 252, 253, 36, 37, 254, 255, 256, 257, 26, 27, 258, 259, 260, 261, 262, 581, 582, 583, 584, 585, 592, 593, 594, 595, 596, 597, 598, 599, 600, 601, 602, 603, 604, 605, 606, 607, 608, 609, 610] rfl (by decide +kernel)
set_option maxRecDepth 20000 in
theorem gL_law_X2_casingPressure : GoodIn wsL_law (wsV RL 57 RX2 yX2_casingPressure wsX2_casingPressure) := goodIn_app (goodIn_of _ (by decide +kernel)) ggL_law_X2_casingPressure
set_option maxRecDepth 20000 in
theorem ggL_law_X3_casingPressure : GoodIn wsL_law wsX3_casingPressure := goodIn_r _ [370, 308, 309, 310, 5, 311, 87, 312, 313, 314, 315, 316, 317, 95, 96, 97, 102, 103, 104, 586, 587, 588, 589, 590, 591] rfl (by decide +kernel)
set_option maxRecDepth 20000 in
theorem gL_law_X3_casingPressure : GoodIn wsL_law (wsV RL 60 RX3 yX3_casingPressure wsX3_casingPressure) := goodIn_app (goodIn_of _ (by decide +kernel)) ggL_law_X3_casingPressure
set_option maxRecDepth 20000 in
theorem ggL_law_X2_standpipePressure : GoodIn wsL_law wsX2_standpipePressure := goodIn_r _ [374, 15, 375, 376, 377, 14, 378, 31, 379, 356, 357, 358, 30, 234, 235, 224, 236, 245, 246, 247, 248, 249, 250, 251, 252, 253, 36, 37, 254, 255, 256, 257, 26, 27, 258, 259, 260, 261, 262, 581, 582, 583, 584, 585, 592, 593, 594, 595, 596, 597, 598, 599, 600, 601, 602, 603, 604, 605, 606, 607, 608, 609, 610] rfl (by decide +kernel)
set_option maxRecDepth 20000 in
theorem gL_law_X2_standpipePressure : GoodIn wsL_law (wsV RL 61 RX2 yX2_standpipePressure wsX2_standpipePressure) := goodIn_app (goodIn_of _ (by decide +kernel)) ggL_law_X2_standpipePressure
set_option maxRecDepth 20000 in
theorem ggL_law_X3_standpipePressure : GoodIn wsL_law wsX3_standpipePressure := goodIn_r _ [383, 87, 308, 309, 310, 5, 311, 312, 313, 314, 315, 316, 317, 95, 96, 97, 102, 103, 104, 586, 587, 588, 589, 590, 591] rfl (by decide +kernel)
set_option maxRecDepth 20000 in
theorem gL_law_X3_standpipePressure : GoodIn wsL_law (wsV RL 64 RX3 yX3_standpipePressure wsX3_standpipePressure) := goodIn_app (goodIn_of _ (by decide +kernel)) ggL_law_X3_standpipePressure
set_option maxRecDepth 20000 in
theorem ggL_law_X2_shoePressure : GoodIn wsL_law wsX2_shoePressure := goodIn_r _ [387, 15, 388, 238, 239, 14, 240, 28, 241, 242, 243, 244, 30, 234, 235, 224, 236, 245, 246, 247, 248, 249, 250, 251, 252, 253, 36, 37, 254, 255, 256, 257, 26, 27, 258, 259, 260, 261, 262, 263, 264, 265, 266, 267, 268, 269, 35, 270, 57, 42, 222, 223, 225, 43, 271, 272, 273, 274, 44, 56, 75, 76, 77, 78, 581, 582, 583, 584, 585, 592, 593, 594, 595, 596, 597, 598, 599, 600, 601, 602, 603, 604, 605, 606, 607, 608, 609, 610] rfl (by decide +kernel)
set_option maxRecDepth 20000 in
theorem gL_law_X2_shoePressure : GoodIn wsL_law (wsV RL 65 RX2 yX2_shoePressure wsX2_shoePressure) := goodIn_app (goodIn_of _ (by decide +kernel)) ggL_law_X2_shoePressure
set_option maxRecDepth 20000 in
theorem ggL_law_X3_shoePressure : GoodIn wsL_law wsX3_shoePressure := goodIn_r _ [392, 304, 305, 306, 5, 307, 87, 308, 309, 310, 311, 312, 313, 314, 315, 316, 317, 95, 96, 97, 102, 103, 104, 586, 587, 588, 589, 590, 591] rfl (by decide +kernel)
set_option maxRecDepth 20000 in
theorem gL_law_X3_shoePressure : GoodIn wsL_law (wsV RL 68 RX3 yX3_shoePressure wsX3_shoePressure) := goodIn_app (goodIn_of _ (by decide +kernel)) ggL_law_X3_shoePressure
set_option maxRecDepth 20000 in
theorem ggL_law_X2_allowedCasingPressure : GoodIn wsL_law wsX2_allowedCasingPressure := goodIn_r _ [396, 15, 197, 112, 346, 264, 265, 14, 266, 254, 255, 256, 257, 26, 27, 250, 251, 252, 253, 36, 37, 267, 268, 269, 35, 270, 57, 42, 222, 223, 224, 225, 43, 271, 272, 273, 274, 44, 56, 75, 76, 77, 78, 258, 259, 260, 261, 262, 234, 235, 236, 581, 582, 583, 584, 585, 592, 593, 594, 595, 596, 597, 598, 599, 600, 601, 602, 603, 604, 605, 606, 607, 608, 609, 610] rfl (by decide +kernel)
set_option maxRecDepth 20000 in
theorem gL_law_X2_allowedCasingPressure : GoodIn wsL_law (wsV RL 69 RX2 yX2_allowedCasingPressure wsX2_allowedCasingPressure) := goodIn_app (goodIn_of _ (by decide +kernel)) ggL_law_X2_allowedCasingPressure
set_option maxRecDepth 20000 in
theorem ggL_law_X3_allowedCasingPressure : GoodIn wsL_law wsX3_allowedCasingPressure := goodIn_r _ [400, 87, 312, 313, 314, 5, 315, 316, 317, 95, 96, 97, 102, 103, 104, 586, 587, 588, 589, 590, 591] rfl (by decide +kernel)
set_option maxRecDepth 20000 in
theorem gL_law_X3_allowedCasingPressure : GoodIn wsL_law (wsV RL 72 RX3 yX3_allowedCasingPressure wsX3_allowedCasingPressure) := goodIn_app (goodIn_of _ (by decide +kernel)) ggL_law_X3_allowedCasingPressure
set_option maxRecDepth 20000 in
theorem ggL_law_X2_killDensity : GoodIn wsL_law wsX2_killDensity := goodIn_r _ [404, 15, 405, 406, 407, 14, 408, 261, 25, 234, 235, 224, 236, 262, 30, 409, 410, 411, 412, 116, 117, 118, 2, 119, 20, 113, 114, 115, 581, 582, 583, 584, 585, 592, 593, 594, 595, 596, 597, 598, 599, 600, 601, 602, 603, 604] rfl (by decide +kernel)
set_option maxRecDepth 20000 in
theorem gL_law_X2_killDensity : GoodIn wsL_law (wsV RL 73 RX2 yX2_killDensity wsX2_killDensity) := goodIn_app (goodIn_of _ (by decide +kernel)) ggL_law_X2_killDensity
set_option maxRecDepth 20000 in
theorem ggL_law_X3_killDensity : GoodIn wsL_law wsX3_killDensity := goodIn_r _ [416, 417, 418, 419, 5, 420, 316, 317, 87, 98, 99, 100, 101, 148, 149, 150, 151, 90, 586, 587, 588, 589, 590, 591] rfl (by decide +kernel)
set_option maxRecDepth 20000 in
theorem gL_law_X3_killDensity : GoodIn wsL_law (wsV RL 76 RX3 yX3_killDensity wsX3_killDensity) := goodIn_app (goodIn_of _ (by decide +kernel)) ggL_law_X3_killDensity
set_option maxRecDepth 20000 in
theorem ggL_law_X2_killShoePressure : GoodIn wsL_law wsX2_killShoePressure := goodIn_r _ [424, 15, 16, 425, 164, 113, 114, 2, 115, 116, 117, 118, 119, 20, 206, 207, 208, 14, 209, 59, 60, 61, 62, 25, 26, 79, 80, 81, 82, 27, 405, 406, 407, 408, 261, 234, 235, 224, 236, 262, 30, 409, 410, 411, 412, 128, 129, 130, 131, 28, 29, 31, 32, 49, 50, 51, 36, 37, 132, 133, 134, 35, 135, 57, 42, 43, 136, 53, 54, 55, 56, 58, 71, 72, 73, 74, 75, 76, 77, 78, 137, 64, 65, 66, 67, 68, 69, 70, 140, 426, 427, 428, 429, 430, 431, 432, 433, 211, 212, 213, 214, 215, 216, 217, 218, 219, 220, 221, 222, 223, 225, 226, 227, 228, 229, 63, 434, 231, 232, 233, 237, 238, 239, 240, 241, 242, 243, 244, 245, 246, 247, 248, 249, 250, 251, 252, 253, 254, 255, 256, 257, 258, 259, 260, 263, 264, 265, 266, 267, 268, 269, 270, 271, 272, 273, 274, 44, 139, 581, 582, 583, 584, 585, 592, 593, 594, 595, 596, 597, 598, 599, 600, 601, 602, 603, 604, 605, 606, 607, 608, 609, 610] rfl (by decide +kernel)
set_option maxRecDepth 20000 in
theorem gL_law_X2_killShoePressure : GoodIn wsL_law (wsV RL 77 RX2 yX2_killShoePressure wsX2_killShoePressure) := goodIn_app (goodIn_of _ (by decide +kernel)) ggL_law_X2_killShoePressure
set_option maxRecDepth 20000 in
theorem ggL_law_X3_killShoePressure : GoodIn wsL_law wsX3_killShoePressure := goodIn_r _ [438, 87, 88, 145, 146, 5, 147, 148, 149, 150, 151, 90, 98, 99, 100, 101, 417, 418, 419, 420, 316, 317, 157, 158, 159, 439, 440, 441, 442, 280, 281, 282, 283, 284, 285, 286, 287, 102, 103, 104, 95, 96, 97, 288, 289, 290, 291, 292, 293, 294, 295, 296, 297, 298, 299, 304, 305, 306, 307, 308, 309, 310, 311, 312, 313, 314, 315, 586, 587, 588, 589, 590, 591] rfl (by decide +kernel)
set_option maxRecDepth 20000 in
theorem gL_law_X3_killShoePressure : GoodIn wsL_law (wsV RL 80 RX3 yX3_killShoePressure wsX3_killShoePressure) := goodIn_app (goodIn_of _ (by decide +kernel)) ggL_law_X3_killShoePressure
set_option maxRecDepth 20000 in
theorem ggL_law_X2_schedule : GoodIn wsL_law wsX2_schedule := goodIn_r _ [446, 15, 188, 164, 432, 235, 224, 236, 447, 113, 114, 2, 115, 116, 117, 118, 119, 20, 405, 406, 407, 14, 408, 261, 25, 234, 262, 30, 409, 410, 411, 412, 375, 376, 377, 378, 31, 379, 356, 357, 358, 245, 246, 247, 248, 249, 250, 251, 252, 253, 36, 37, 254, 255, 256, 257, 26, 27, 258, 259, 260, 581, 582, 583, 584, 585, 592, 593, 594, 595, 596, 597, 598, 599, 600, 601, 602, 603, 604, 605, 606, 607, 608, 609, 610] rfl (by decide +kernel)
set_option maxRecDepth 20000 in
theorem gL_law_X2_schedule : GoodIn wsL_law (wsV RL 81 RX2 yX2_schedule wsX2_schedule) := goodIn_app (goodIn_of _ (by decide +kernel)) ggL_law_X2_schedule
set_option maxRecDepth 20000 in
theorem ggL_law_X3_schedule : GoodIn wsL_law wsX3_schedule := goodIn_r _ [451, 87, 452, 145, 146, 5, 147, 148, 149, 150, 151, 90, 417, 418, 419, 420, 316, 317, 98, 99, 100, 101, 308, 309, 310, 311, 312, 313, 314, 315, 95, 96, 97, 102, 103, 104, 586, 587, 588, 589, 590, 591] rfl (by decide +kernel)
set_option maxRecDepth 20000 in
theorem gL_law_X3_schedule : GoodIn wsL_law (wsV RL 84 RX3 yX3_schedule wsX3_schedule) := goodIn_app (goodIn_of _ (by decide +kernel)) ggL_law_X3_schedule
set_option maxRecDepth 20000 in
theorem ggL_law_X2_strokesToBit : GoodIn wsL_law wsX2_strokesToBit := goodIn_r _ [456, 15, 113, 114, 2, 115, 116, 117, 118, 119, 20, 139, 60, 61, 14, 62, 25, 26, 457, 430, 431, 432, 235, 224, 236, 581, 582, 583, 584, 585, 592, 593, 594, 595, 596, 597, 598, 599, 600, 601, 602, 603, 604] rfl (by decide +kernel)
set_option maxRecDepth 20000 in
theorem gL_law_X2_strokesToBit : GoodIn wsL_law (wsV RL 85 RX2 yX2_strokesToBit wsX2_strokesToBit) := goodIn_app (goodIn_of _ (by decide +kernel)) ggL_law_X2_strokesToBit
set_option maxRecDepth 20000 in
theorem ggL_law_X3_strokesToBit : GoodIn wsL_law wsX3_strokesToBit := goodIn_r _ [461, 145, 146, 5, 147, 98, 99, 100, 101, 87, 148, 149, 150, 151, 90, 586, 587, 588, 589, 590, 591] rfl (by decide +kernel)
set_option maxRecDepth 20000 in
theorem gL_law_X3_strokesToBit : GoodIn wsL_law (wsV RL 88 RX3 yX3_strokesToBit wsX3_strokesToBit) := goodIn_app (goodIn_of _ (by decide +kernel)) ggL_law_X3_strokesToBit
set_option maxRecDepth 20000 in
theorem ggL_law_X2_layers : GoodIn wsL_law wsX2_layers := goodIn_r _ [465, 15, 466, 113, 114, 2, 115, 116, 117, 118, 119, 20, 467, 251, 252, 14, 253, 36, 37, 581, 582, 583, 584, 585, 605, 606, 607, 608, 609, 610, 592, 593, 594, 595, 596, 597, 598, 599, 600, 601, 602, 603, 604] rfl (by decide +kernel)
set_option maxRecDepth 20000 in
theorem gL_law_X2_layers : GoodIn wsL_law (wsV RL 89 RX2 yX2_layers wsX2_layers) := goodIn_app (goodIn_of _ (by decide +kernel)) ggL_law_X2_layers
set_option maxRecDepth 20000 in
theorem ggL_law_X3_layers : GoodIn wsL_law wsX3_layers := goodIn_r _ [471, 87, 339, 340, 5, 341, 145, 146, 147, 148, 149, 150, 151, 90, 586, 587, 588, 589, 590, 591] rfl (by decide +kernel)
set_option maxRecDepth 20000 in
theorem gL_law_X3_layers : GoodIn wsL_law (wsV RL 92 RX3 yX3_layers wsX3_layers) := goodIn_app (goodIn_of _ (by decide +kernel)) ggL_law_X3_layers
set_option maxRecDepth 20000 in
theorem ggL_law_X2_layerVolume : GoodIn wsL_law wsX2_layerVolume := goodIn_r _ [475, 15, 476, 477, 478, 2, 479, 466, 113, 114, 115, 467, 251, 252, 14, 253, 36, 37, 116, 117, 118, 119, 20, 480, 481, 482, 35, 483, 42, 271, 272, 273, 274, 44, 57, 56, 75, 76, 77, 78, 581, 582, 583, 584, 585, 605, 606, 607, 608, 609, 610, 592, 593, 594, 595, 596, 597, 598, 599, 600, 601, 602, 603, 604] rfl (by decide +kernel)
set_option maxRecDepth 20000 in
theorem gL_law_X2_layerVolume : GoodIn wsL_law (wsV RL 93 RX2 yX2_layerVolume wsX2_layerVolume) := goodIn_app (goodIn_of _ (by decide +kernel)) ggL_law_X2_layerVolume
set_option maxRecDepth 20000 in
theorem ggL_law_X3_layerVolume : GoodIn wsL_law wsX3_layerVolume := goodIn_r _ [487, 488, 489, 490, 5, 491, 87, 339, 340, 341, 145, 146, 147, 148, 149, 150, 151, 90, 95, 96, 97, 586, 587, 588, 589, 590, 591] rfl (by decide +kernel)
set_option maxRecDepth 20000 in
theorem gL_law_X3_layerVolume : GoodIn wsL_law (wsV RL 96 RX3 yX3_layerVolume wsX3_layerVolume) := goodIn_app (goodIn_of _ (by decide +kernel)) ggL_law_X3_layerVolume
set_option maxRecDepth 20000 in
theorem ggL_law_X2_layerDensity : GoodIn wsL_law wsX2_layerDensity := goodIn_r _ [495, 15, 476, 477, 478, 2, 479, 466, 113, 114, 115, 467, 251, 252, 14, 253, 36, 37, 116, 117, 118, 119, 20, 496, 497, 498, 35, 499, 43, 271, 272, 273, 274, 44, 57, 56, 75, 76, 77, 78, 581, 582, 583, 584, 585, 605, 606, 607, 608, 609, 610, 592, 593, 594, 595, 596, 597, 598, 599, 600, 601, 602, 603, 604] rfl (by decide +kernel)
set_option maxRecDepth 20000 in
theorem gL_law_X2_layerDensity : GoodIn wsL_law (wsV RL 97 RX2 yX2_layerDensity wsX2_layerDensity) := goodIn_app (goodIn_of _ (by decide +kernel)) ggL_law_X2_layerDensity
set_option maxRecDepth 20000 in
theorem ggL_law_X3_layerDensity : GoodIn wsL_law wsX3_layerDensity := goodIn_r _ [503, 488, 489, 490, 5, 491, 87, 339, 340, 341, 145, 146, 147, 148, 149, 150, 151, 90, 95, 96, 97, 586, 587, 588, 589, 590, 591] rfl (by decide +kernel)
set_option maxRecDepth 20000 in
theorem gL_law_X3_layerDensity : GoodIn wsL_law (wsV RL 100 RX3 yX3_layerDensity wsX3_layerDensity) := goodIn_app (goodIn_of _ (by decide +kernel)) ggL_law_X3_layerDensity
set_option maxRecDepth 20000 in
theorem ggL_law_X2_gain : GoodIn wsL_law wsX2_gain := goodIn_r _ [507, 15, 508, 581, 582, 583, 584, 585, 592, 593, 594, 595, 596, 597, 598, 599, 600, 601, 602, 603, 604] rfl (by decide +kernel)
set_option maxRecDepth 20000 in
theorem gL_law_X2_gain : GoodIn wsL_law (wsV RL 101 RX2 yX2_gain wsX2_gain) := goodIn_app (goodIn_of _ (by decide +kernel)) ggL_law_X2_gain
set_option maxRecDepth 20000 in
theorem ggL_law_X3_gain : GoodIn wsL_law wsX3_gain := goodIn_r _ [512, 87, 586, 587, 588, 589, 590, 591] rfl (by decide +kernel)
set_option maxRecDepth 20000 in
theorem gL_law_X3_gain : GoodIn wsL_law (wsV RL 104 RX3 yX3_gain wsX3_gain) := goodIn_app (goodIn_of _ (by decide +kernel)) ggL_law_X3_gain
set_option maxRecDepth 20000 in
theorem ggL_law_X2_breaks : GoodIn wsL_law wsX2_breaks := goodIn_r _ [516, 15, 517, 581, 582, 583, 584, 585, 592, 593, 594, 595, 596, 597, 598, 599, 600, 601, 602, 603, 604] rfl (by decide +kernel)
set_option maxRecDepth 20000 in
theorem gL_law_X2_breaks : GoodIn wsL_law (wsV RL 105 RX2 yX2_breaks wsX2_breaks) := goodIn_app (goodIn_of _ (by decide +kernel)) ggL_law_X2_breaks
set_option maxRecDepth 20000 in
theorem ggL_law_X3_breaks : GoodIn wsL_law wsX3_breaks := goodIn_r _ [521, 87, 586, 587, 588, 589, 590, 591] rfl (by decide +kernel)
set_option maxRecDepth 20000 in
theorem gL_law_X3_breaks : GoodIn wsL_law (wsV RL 108 RX3 yX3_breaks wsX3_breaks) := goodIn_app (goodIn_of _ (by decide +kernel)) ggL_law_X3_breaks
set_option maxRecDepth 20000 in
theorem ggL_law_X2_greatestShoePressure : GoodIn wsL_law wsX2_greatestShoePressure := goodIn_r _ [525, 15, 425, 581, 582, 583, 584, 585, 592, 593, 594, 595, 596, 597, 598, 599, 600, 601, 602, 603, 604] rfl (by decide +kernel)
set_option maxRecDepth 20000 in
theorem gL_law_X2_greatestShoePressure : GoodIn wsL_law (wsV RL 109 RX2 yX2_greatestShoePressure wsX2_greatestShoePressure) := goodIn_app (goodIn_of _ (by decide +kernel)) ggL_law_X2_greatestShoePressure
set_option maxRecDepth 20000 in
theorem ggL_law_X3_greatestShoePressure : GoodIn wsL_law wsX3_greatestShoePressure := goodIn_r _ [529, 87, 586, 587, 588, 589, 590, 591] rfl (by decide +kernel)
set_option maxRecDepth 20000 in
theorem gL_law_X3_greatestShoePressure : GoodIn wsL_law (wsV RL 112 RX3 yX3_greatestShoePressure wsX3_greatestShoePressure) := goodIn_app (goodIn_of _ (by decide +kernel)) ggL_law_X3_greatestShoePressure
set_option maxRecDepth 20000 in
theorem ggL_law_X2_undo : GoodIn wsL_law wsX2_undo := goodIn_r _ [533, 18, 17, 15, 116, 117, 118, 2, 119, 20, 113, 114, 115, 581, 582, 583, 584, 585] rfl (by decide +kernel)
set_option maxRecDepth 20000 in
theorem gL_law_X2_undo : GoodIn wsL_law (wsV RL 113 RX2 yX2_undo wsX2_undo) := goodIn_app (goodIn_of _ (by decide +kernel)) ggL_law_X2_undo
set_option maxRecDepth 20000 in
theorem ggL_law_X3_undo : GoodIn wsL_law wsX3_undo := goodIn_r _ [537, 156, 89, 87, 148, 149, 150, 5, 151, 90, 157, 158, 159, 586, 587, 588, 589, 590, 591] rfl (by decide +kernel)
set_option maxRecDepth 20000 in
theorem gL_law_X3_undo : GoodIn wsL_law (wsV RL 116 RX3 yX3_undo wsX3_undo) := goodIn_app (goodIn_of _ (by decide +kernel)) ggL_law_X3_undo
set_option maxRecDepth 20000 in
theorem ggL_law_X2_errorCount : GoodIn wsL_law wsX2_errorCount := goodIn_r _ [541, 20, 113, 114, 2, 115, 116, 117, 118, 119, 581, 582, 583, 584, 585] rfl (by decide +kernel)
set_option maxRecDepth 20000 in
theorem gL_law_X2_errorCount : GoodIn wsL_law (wsV RL 117 RX2 yX2_errorCount wsX2_errorCount) := goodIn_app (goodIn_of _ (by decide +kernel)) ggL_law_X2_errorCount
set_option maxRecDepth 20000 in
theorem ggL_law_X3_errorCount : GoodIn wsL_law wsX3_errorCount := goodIn_r _ [545, 90, 145, 146, 5, 147, 148, 149, 150, 151, 586, 587, 588, 589, 590, 591] rfl (by decide +kernel)
set_option maxRecDepth 20000 in
theorem gL_law_X3_errorCount : GoodIn wsL_law (wsV RL 120 RX3 yX3_errorCount wsX3_errorCount) := goodIn_app (goodIn_of _ (by decide +kernel)) ggL_law_X3_errorCount
set_option maxRecDepth 20000 in
theorem ggL_law_X2_digest : GoodIn wsL_law wsX2_digest := goodIn_r _ [549, 550, 20, 15, 551, 552, 18, 553, 554, 2, 555, 556, 557, 558, 559, 14, 560, 25, 26, 27, 28, 29, 30, 31, 32, 561, 562, 563, 35, 564, 57, 42, 43, 271, 272, 273, 274, 44, 56, 75, 76, 77, 78, 565, 566, 567, 568, 49, 50, 51, 379, 356, 357, 358, 234, 235, 224, 236, 245, 246, 247, 248, 249, 250, 251, 252, 253, 36, 37, 254, 255, 256, 257, 258, 259, 260, 261, 262, 241, 242, 243, 244, 569, 376, 377, 378, 237, 238, 239, 240, 263, 264, 265, 266, 267, 268, 269, 270, 222, 223, 225, 581, 582, 583, 584, 585, 592, 593, 594, 595, 596, 597, 598, 599, 600, 601, 602, 603, 604, 605, 606, 607, 608, 609, 610] rfl (by decide +kernel)
set_option maxRecDepth 20000 in
theorem gL_law_X2_digest : GoodIn wsL_law (wsV RL 121 RX2 yX2_digest wsX2_digest) := goodIn_app (goodIn_of _ (by decide +kernel)) ggL_law_X2_digest
set_option maxRecDepth 20000 in
theorem ggL_law_X3_digest : GoodIn wsL_law wsX3_digest := goodIn_r _ [573, 574, 575, 90, 87, 156, 576, 577, 578, 5, 579, 580, 95, 96, 97, 102, 103, 104, 308, 309, 310, 311, 312, 313, 314, 315, 316, 317, 304, 305, 306, 307, 586, 587, 588, 589, 590, 591] rfl (by decide +kernel)
set_option maxRecDepth 20000 in
theorem gL_law_X3_digest : GoodIn wsL_law (wsV RL 125 RX3 yX3_digest wsX3_digest) := goodIn_app (goodIn_of _ (by decide +kernel)) ggL_law_X3_digest
end
section
/-! my own words for this claim: what the tables say beside the worlds; a method's start and end; a call, its frame and what comes behind, as one row -/
def sK (D : va_G) (I O : ClassId) (U : State) : Prop :=
  va_K D vwCl [(I, .int), (O, .object RX1)] U ∧ va_Nw (.methodLinkNest RX0 63 yX2_mixed RX2) U ∧ va_Nw (.methodLinkNest RX1 86 yX2_portionsFor RX2) U ∧ va_Nw (.methodLinkNest RX1 145 yX2_mixed RX2) U ∧ va_AO RX1 U
theorem sK.moved {D : va_G} {I O : ClassId} {s U : State} (hW : s.WarmedH U.vm) (h : sK D I O s) : sK D I O U :=
  ⟨va_K.moved hW.alike h.1, va_Nw.warmM hW h.2.1, va_Nw.warmM hW h.2.2.1, va_Nw.warmM hW h.2.2.2.1, va_AO.moved hW.alike h.2.2.2.2⟩
theorem sK.same {D : va_G} {I O : ClassId} {s U : State} (hv : s.vm = U.vm) (h : sK D I O s) : sK D I O U :=
  ⟨va_K.moved (by rw [hv]; exact Vm.Alike.refl _) h.1, va_Nw.same rfl hv h.2.1, va_Nw.same rfl hv h.2.2.1, va_Nw.same rfl hv h.2.2.2.1, va_AO.moved (by rw [hv]; exact Vm.Alike.refl _) h.2.2.2.2⟩
/-- a method's start: its world, apart, the tables' words -/
def mPc (D : va_G) (I O : ClassId) (av : List Value) (ws : va_W) (sz : Nat) : Array Value → State → Prop :=
  va_Pc av (fun U => U.heap.size = sz ∧ va_P D vwCl ws U.heap ∧ sK D I O U ∧ va_D (fun _ => True) ws)
/-- a method's end: the world of the state that it leaves -/
def mB {S : Type} (D : va_G) (A : Nat → Prop) (w : S → va_W) : S → State → Prop := fun u t => va_P D vwCl (w u) t.heap ∧ va_D A (w u)
theorem mPc_blind {D : va_G} {I O : ClassId} {av : List Value} {ws : va_W} {sz : Nat} : FrameBlind (mPc D I O av ws sz) := by
  intro a U g mk q
  obtain ⟨q0, q1, qP, qK, qD⟩ := q
  exact ⟨q0, q1, qP, sK.same (s := U) (U := U.calling g mk a) rfl qK, qD⟩
theorem mPc_at {D : va_G} {I O : ClassId} {av : List Value} {ws : va_W} {H : Heap} {A : Nat → Prop} {s : State} (hP : va_P D vwCl ws H) (hD : va_D A ws) (hK : sK D I O s) : ∀ U : State, U.heap = H → s.WarmedH U.vm → mPc D I O av ws H.size av.toArray U :=
  fun U hU hW => ⟨rfl, by rw [hU], by rw [hU]; exact hP, hK.moved hW, hD.weaken (fun _ _ _ _ => trivial)⟩
/-- a part in the middle of a world -/
theorem va_P.mid {D : va_G} {cl : List vw_C} {X wc Y : va_W} {H : Heap} (h : va_P D cl (X ++ (wc ++ Y)) H) : va_P D cl wc H := by
  intro k q hk
  have hm : q ∈ X ++ (wc ++ Y) := List.mem_append_right _ (List.mem_append_left _ (List.mem_of_getElem? hk))
  obtain ⟨i, hi⟩ := List.getElem?_of_mem hm
  exact h i q hi
theorem va_P.left {D : va_G} {cl : List vw_C} {X Y : va_W} {H : Heap} (h : va_P D cl (X ++ Y) H) : va_P D cl X H := by
  intro k q hk
  obtain ⟨i, hi⟩ := List.getElem?_of_mem (List.mem_append_left Y (List.mem_of_getElem? hk))
  exact h i q hi
theorem va_P.right {D : va_G} {cl : List vw_C} {X Y : va_W} {H : Heap} (h : va_P D cl (X ++ Y) H) : va_P D cl Y H := by
  intro k q hk
  obtain ⟨i, hi⟩ := List.getElem?_of_mem (List.mem_append_right X (List.mem_of_getElem? hk))
  exact h i q hi
theorem va_D.left {A : Nat → Prop} {X Y : va_W} (h : va_D A (X ++ Y)) : va_D A X := by
  have key : ∀ (k : Nat) (q : Nat × va_E), X[k]? = some q → (X ++ Y)[k]? = some q := fun k q hk => by
    rw [List.getElem?_append_left (List.getElem?_eq_some_iff.mp hk).1]; exact hk
  exact ⟨fun i j p q hi hj hpq => h.1 i j p q (key i p hi) (key j q hj) hpq, fun k q hk => h.2 k q (key k q hk)⟩
theorem va_D.right {A : Nat → Prop} {X Y : va_W} (h : va_D A (X ++ Y)) : va_D A Y := by
  have key : ∀ (k : Nat) (q : Nat × va_E), Y[k]? = some q → (X ++ Y)[X.length + k]? = some q := fun k q hk => by
    rw [List.getElem?_append_right (by omega), Nat.add_sub_cancel_left]; exact hk
  exact ⟨fun i j p q hi hj hpq => by have := h.1 _ _ p q (key i p hi) (key j q hj) hpq; omega, fun k q hk => h.2 _ q (key k q hk)⟩
theorem va_D.apart {A : Nat → Prop} {X Y : va_W} (h : va_D A (X ++ Y)) (i j : Nat) (p q : Nat × va_E) (hi : X[i]? = some p) (hj : Y[j]? = some q) : p.1 ≠ q.1 := by
  intro e
  have hl := (List.getElem?_eq_some_iff.mp hi).1
  have h1 : (X ++ Y)[i]? = some p := by rw [List.getElem?_append_left hl]; exact hi
  have h2 : (X ++ Y)[X.length + j]? = some q := by rw [List.getElem?_append_right (by omega), Nat.add_sub_cancel_left]; exact hj
  have := h.1 _ _ p q h1 h2 e
  omega
theorem va_D.swapL {A : Nat → Prop} {X Y Z : va_W} (h : va_D A (X ++ (Y ++ Z))) : va_D A (Y ++ (X ++ Z)) := by
  refine va_D.app h.right.left (va_D.app h.left h.right.right (fun i j p q hi hj => ?_)) (fun i j p q hi hj => ?_)
  · have hm : q ∈ Y ++ Z := List.mem_append_right _ (List.mem_of_getElem? hj)
    obtain ⟨k, hk⟩ := List.getElem?_of_mem hm
    exact h.apart i k p q hi hk
  · rcases List.mem_append.mp (List.mem_of_getElem? hj) with hm | hm
    · obtain ⟨k, hk⟩ := List.getElem?_of_mem hm
      have hm2 : p ∈ Y ++ Z := List.mem_append_left _ (List.mem_of_getElem? hi)
      obtain ⟨k2, hk2⟩ := List.getElem?_of_mem hm2
      exact fun e => h.apart k k2 q p hk hk2 e.symm
    · obtain ⟨k, hk⟩ := List.getElem?_of_mem hm
      exact h.right.apart i k p q hi hk
theorem va_P.swapL {D : va_G} {cl : List vw_C} {X Y Z : va_W} {H : Heap} (h : va_P D cl (X ++ (Y ++ Z)) H) : va_P D cl (Y ++ (X ++ Z)) H := va_P.app h.right.left (va_P.app h.left h.right.right)
theorem mid_free {A0 : Nat → Prop} {X wc Y : va_W} {H0 H : Heap} {locs : List Loc} (hD : va_D A0 (X ++ (wc ++ Y))) (hS : va_S A0 H0 H locs) (hA : ∀ q, H0.size ≤ q → A0 q) : ∀ q, va_A wc H.size q → A0 q := by
  intro q h
  rcases h with ⟨k, e, h⟩ | h
  · exact hD.right.left.2 k (q, e) h
  · exact hA q (Nat.le_trans hS.1 h)
/-- behind a call in the middle of a world -/
theorem mid_join {A0 : Nat → Prop} {D : va_G} {cl : List vw_C} {X wc Y w1 : va_W} {H H1 : Heap} (hP : va_P D cl (X ++ (wc ++ Y)) H) (hD : va_D A0 (X ++ (wc ++ Y)))
    (hk : ∀ q : Nat, q < H.size → ¬ va_A wc H.size q → H1[q]? = H[q]?) (hF : ∀ q, va_A wc H.size q → A0 q) (hP1 : va_P D cl w1 H1) (hD1 : va_D (va_A wc H.size) w1) : va_P D cl (X ++ (w1 ++ Y)) H1 ∧ va_D A0 (X ++ (w1 ++ Y)) := by
  have hX : ∀ (k : Nat) (q : Nat × va_E), X[k]? = some q → q.1 < H.size ∧ ¬ va_A wc H.size q.1 := by
    intro k q hq
    have hl := (hP.left k q hq).lt
    refine ⟨hl, fun h => ?_⟩
    rcases h with ⟨k2, e, h⟩ | h
    · have hm : (q.1, e) ∈ wc ++ Y := List.mem_append_left _ (List.mem_of_getElem? h)
      obtain ⟨j, hj⟩ := List.getElem?_of_mem hm
      exact hD.apart k j q (q.1, e) hq hj rfl
    · omega
  have hY : ∀ (k : Nat) (q : Nat × va_E), Y[k]? = some q → q.1 < H.size ∧ ¬ va_A wc H.size q.1 := by
    intro k q hq
    have hl := (hP.right.right k q hq).lt
    refine ⟨hl, fun h => ?_⟩
    rcases h with ⟨k2, e, h⟩ | h
    · exact hD.right.apart k2 k (q.1, e) q h hq rfl
    · omega
  have hw : va_D A0 w1 := hD1.weaken (fun _ q _ h => hF q.1 h)
  refine ⟨va_P.app (fun k q hq => (hP.left k q hq).kept (hk q.1 (hX k q hq).1 (hX k q hq).2)) (va_P.app hP1 (fun k q hq => (hP.right.right k q hq).kept (hk q.1 (hY k q hq).1 (hY k q hq).2))), ?_⟩
  refine va_D.app hD.left (va_D.app hw hD.right.right (fun i j x y hi hj e => (hY j y hj).2 (by rw [← e]; exact hD1.2 i x hi))) (fun i j x y hi hj e => ?_)
  rcases List.mem_append.mp (List.mem_of_getElem? hj) with hm | hm
  · obtain ⟨k, hk2⟩ := List.getElem?_of_mem hm
    exact (hX i x hi).2 (by rw [e]; exact hD1.2 k y hk2)
  · have hm2 : y ∈ wc ++ Y := List.mem_append_right _ hm
    obtain ⟨k, hk2⟩ := List.getElem?_of_mem hm2
    exact hD.apart i k x y hi hk2 e
set_option maxHeartbeats 4000000 in
/-- a contract out of a walk -/
theorem m_start {l : Launch} {y : MethodName} {ws ws' : List Cond} {rm : Room} {Qc : Array Value → State → Outcome → State → Prop} {mc ms : Nat} {cc : ByteArray} {maxL : Nat} {ret : Option FieldType} {D : va_G} {I O : ClassId} {av : List Value} {w0 : va_W} {sz : Nat}
    (hy : plainName y.cls = true) (hw : ws = Cond.code y cc maxL ret :: ws') (hlen : (lg_sl av).length ≤ maxL)
    (body : ∀ (p : Program) (e : Env) (s : State) (m : MethodId) (below : List Frame) (meth : Method) (c : Code) (ls : Array Slot) (H : Heap) (locs : List Loc), p.tables.exec = Jvm.exec → c.code = cc → meth.sig.returnType = ret → c.maxLocals = maxL → (∀ w ∈ ws, w.before av.toArray s = true) → s.vm.findClass y.cls = some m.cls → meth.locks = false → meth.name = y.name → sK D I O s → va_P D vwCl w0 H → va_D (va_A w0 sz) w0 → (∀ q, s.heap.size ≤ q → va_A w0 sz q) → va_S (va_A w0 sz) s.heap H locs → lv_has ls maxL (lv_args 0 av) →
      W p l e rm s m av.toArray below meth c H locs 0 0 (MQ below Qc av.toArray s mc ms (va_A w0 sz)) (F0 m 0 ls [])) : Met l y ws rm (mPc D I O av w0 sz) Qc mc ms (va_A w0 sz) := by
  refine Met.ofW (cc := cc) (maxL := maxL) (ret := ret) hy hw ?_
  intro p e s m args below meth c s₁ B hml hv
  obtain ⟨rfl, hsz, hP, hK, hD0⟩ := hv
  have hl := lv_entry av (n := maxL) hlen
  rw [lg_entry_eq]
  subst hsz
  exact body p e s m below meth c _ _ _ B.exec B.bytes B.returns hml (atoms_spec (ws := ws) B.pre) (findClass_of_methodNamed B.named) B.notSynchronized (name_of_methodNamed B.named B.method).1 hK hP hD0.self (fun q h => Or.inr h) va_S.rf hl
section MR
variable {p : Program} {l : Launch} {e : Env} {R : Room} {s : State} {m : MethodId} {args : Array Value} {below : List Frame} {meth : Method} {c : Code} {H : Heap} {locs : List Loc} {cells slots : Nat} {cc : ByteArray} {D : va_G} {A : Nat → Prop} {pc : Nat} {ls : Array Slot}
theorem m_iret {S : Type} {Q : Int32 → S → Prop} {w : S → va_W} {v : Int32} (u : S) (hx : p.tables.exec = Jvm.exec) (hb : c.code = cc) (hr : meth.sig.returnType = some .int) (hlocks : meth.locks = false) (hS : va_S A s.heap H locs) (hP : va_P D vwCl (w u) H) (hD : va_D A (w u)) (hdg : decode cc pc = .ok (.ireturn, 1)) (hw : Q v u) :
    W p l e R s m args below meth c H locs cells slots (MQ below (va_Qi Q (mB D A w) A) args s cells slots A) (F0 m pc ls [.int v]) :=
  W.iret hx hb hr (fun t ht _ => ⟨⟨v, u, rfl, hw, by rw [ht]; exact hP, hD⟩, hS.F ht⟩) hS.2.2 hdg hlocks
theorem m_zret {S : Type} {Q : Int32 → S → Prop} {w : S → va_W} {v : Int32} (u : S) (hx : p.tables.exec = Jvm.exec) (hb : c.code = cc) (hr : meth.sig.returnType = some .boolean) (hlocks : meth.locks = false) (hn : narrow .boolean (.int v) = .int v) (hS : va_S A s.heap H locs) (hP : va_P D vwCl (w u) H) (hD : va_D A (w u)) (hdg : decode cc pc = .ok (.ireturn, 1)) (hw : Q v u) :
    W p l e R s m args below meth c H locs cells slots (MQ below (va_Qi Q (mB D A w) A) args s cells slots A) (F0 m pc ls [.int v]) :=
  W.zret hx hb hr hn (fun t ht _ => ⟨⟨v, u, rfl, hw, by rw [ht]; exact hP, hD⟩, hS.F ht⟩) hS.2.2 hdg hlocks
theorem m_lret {S : Type} {Q : Int64 → S → Prop} {w : S → va_W} {v : Int64} (u : S) (hx : p.tables.exec = Jvm.exec) (hb : c.code = cc) (hr : meth.sig.returnType = some .long) (hlocks : meth.locks = false) (hS : va_S A s.heap H locs) (hP : va_P D vwCl (w u) H) (hD : va_D A (w u)) (hdg : decode cc pc = .ok (.lreturn, 1)) (hw : Q v u) :
    W p l e R s m args below meth c H locs cells slots (MQ below (va_Ql Q (mB D A w) A) args s cells slots A) (F0 m pc ls [.long v]) :=
  W.lret hx hb hr (fun t ht _ => ⟨⟨v, u, rfl, hw, by rw [ht]; exact hP, hD⟩, hS.F ht⟩) hS.2.2 hdg hlocks
theorem m_vret {S : Type} {Q : S → Prop} {w : S → va_W} (u : S) (hx : p.tables.exec = Jvm.exec) (hb : c.code = cc) (hr : meth.sig.returnType = none) (hlocks : meth.locks = false) (hS : va_S A s.heap H locs) (hP : va_P D vwCl (w u) H) (hD : va_D A (w u)) (hdg : decode cc pc = .ok (.return_, 1)) (hw : Q u) :
    W p l e R s m args below meth c H locs cells slots (MQ below (va_Qv Q (mB D A w) A) args s cells slots A) (F0 m pc ls []) :=
  W.vret hx hb hr (fun t ht _ => ⟨⟨u, rfl, hw, by rw [ht]; exact hP, hD⟩, hS.F ht⟩) hS.2.2 hdg hlocks
/-- an answer that is a cell: its address is told -/
theorem m_aret {S : Type} {Q : S → Prop} {w : S → va_W} {C : String} {v : Nat} (u : S) (hx : p.tables.exec = Jvm.exec) (hb : c.code = cc) (hr : meth.sig.returnType = some (.object C)) (hlocks : meth.locks = false) (hS : va_S A s.heap H locs) (hP : va_P D vwCl (w u) H) (hD : va_D A (w u)) (hdg : decode cc pc = .ok (.areturn, 1)) (hw : Q u) :
    W p l e R s m args below meth c H locs cells slots (MQ below (va_Qr Q (fun u a t => a = v ∧ mB D A w u t) A) args s cells slots A) (F0 m pc ls [.ref v]) :=
  W.aret hx hb hr (Or.inl ⟨_, rfl⟩) (Or.inr ⟨_, rfl⟩) (fun t ht _ => ⟨⟨u, v, rfl, hw, rfl, by rw [ht]; exact hP, hD⟩, hS.F ht⟩) hS.2.2 hdg hlocks
end MR
section MC
variable {p : Program} {l : Launch} {e : Env} {R : Room} {s : State} {m : MethodId} {args : Array Value} {below : List Frame} {meth : Method} {c : Code} {H : Heap} {locs : List Loc} {cells slots : Nat} {Qw : State → Prop}
variable {y : MethodName} {bytes cc : ByteArray} {maxL nL mc ms n index : Nat} {ret : Option FieldType} {ws : List Cond} {rm : Room} {Ts : List Cond} {own C : String} {D : va_G} {I O : ClassId} {A0 : Nat → Prop} {H0 : Heap} {pc : Nat} {ls : Array Slot}
/-- what a call goes on with: the callee's world in the middle of the caller's -/
theorem mc_i {S : Type} {Q : Int32 → S → Prop} {wc : va_W} {w : S → va_W} {st0 rest : List Value} {a : Array Value} (X Y : va_W)
    (hr : va_Run p l e R s m args below meth c H locs cells slots mc ms (F0 m pc ls st0) rest (va_Qi Q (mB D (va_A wc H.size) w) (va_A wc H.size) a) (va_A wc H.size))
    (hP : va_P D vwCl (X ++ (wc ++ Y)) H) (hD : va_D A0 (X ++ (wc ++ Y))) (hS : va_S A0 H0 H locs) (hA : ∀ q, H0.size ≤ q → A0 q)
    (kk : ∀ (r : Int32) (u : S) (H1 : Heap) (locs1 : List Loc), Q r u → va_P D vwCl (X ++ (w u ++ Y)) H1 → va_D A0 (X ++ (w u ++ Y)) → va_S A0 H0 H1 locs1 → W p l e R s m args below meth c H1 locs1 (cells + mc) (slots + ms) Qw (F0 m (pc + 3) ls (.int r :: rest))) :
    W p l e R s m args below meth c H locs cells slots Qw (F0 m pc ls st0) := by
  have hF := mid_free hD hS hA
  refine va_calli hr hS (fun q _ h => hF q h) hF (fun r u t H1 locs1 ht _ hw hB _ hk1 hS1 => ?_)
  obtain ⟨hP1, hD1⟩ := hB
  rw [ht] at hP1
  obtain ⟨hP2, hD2⟩ := mid_join hP hD hk1 hF hP1 hD1
  exact kk r u H1 locs1 hw hP2 hD2 hS1
theorem mc_l {S : Type} {Q : Int64 → S → Prop} {wc : va_W} {w : S → va_W} {st0 rest : List Value} {a : Array Value} (X Y : va_W)
    (hr : va_Run p l e R s m args below meth c H locs cells slots mc ms (F0 m pc ls st0) rest (va_Ql Q (mB D (va_A wc H.size) w) (va_A wc H.size) a) (va_A wc H.size))
    (hP : va_P D vwCl (X ++ (wc ++ Y)) H) (hD : va_D A0 (X ++ (wc ++ Y))) (hS : va_S A0 H0 H locs) (hA : ∀ q, H0.size ≤ q → A0 q)
    (kk : ∀ (r : Int64) (u : S) (H1 : Heap) (locs1 : List Loc), Q r u → va_P D vwCl (X ++ (w u ++ Y)) H1 → va_D A0 (X ++ (w u ++ Y)) → va_S A0 H0 H1 locs1 → W p l e R s m args below meth c H1 locs1 (cells + mc) (slots + ms) Qw (F0 m (pc + 3) ls (.long r :: rest))) :
    W p l e R s m args below meth c H locs cells slots Qw (F0 m pc ls st0) := by
  have hF := mid_free hD hS hA
  refine va_calll hr hS (fun q _ h => hF q h) hF (fun r u t H1 locs1 ht _ hw hB _ hk1 hS1 => ?_)
  obtain ⟨hP1, hD1⟩ := hB
  rw [ht] at hP1
  obtain ⟨hP2, hD2⟩ := mid_join hP hD hk1 hF hP1 hD1
  exact kk r u H1 locs1 hw hP2 hD2 hS1
theorem mc_v {S : Type} {Q : S → Prop} {wc : va_W} {w : S → va_W} {st0 rest : List Value} {a : Array Value} (X Y : va_W)
    (hr : va_Run p l e R s m args below meth c H locs cells slots mc ms (F0 m pc ls st0) rest (va_Qv Q (mB D (va_A wc H.size) w) (va_A wc H.size) a) (va_A wc H.size))
    (hP : va_P D vwCl (X ++ (wc ++ Y)) H) (hD : va_D A0 (X ++ (wc ++ Y))) (hS : va_S A0 H0 H locs) (hA : ∀ q, H0.size ≤ q → A0 q)
    (kk : ∀ (u : S) (H1 : Heap) (locs1 : List Loc), Q u → va_P D vwCl (X ++ (w u ++ Y)) H1 → va_D A0 (X ++ (w u ++ Y)) → va_S A0 H0 H1 locs1 → W p l e R s m args below meth c H1 locs1 (cells + mc) (slots + ms) Qw (F0 m (pc + 3) ls rest)) :
    W p l e R s m args below meth c H locs cells slots Qw (F0 m pc ls st0) := by
  have hF := mid_free hD hS hA
  refine va_callv hr hS (fun q _ h => hF q h) hF (fun u t H1 locs1 ht _ hw hB _ hk1 hS1 => ?_)
  obtain ⟨hP1, hD1⟩ := hB
  rw [ht] at hP1
  obtain ⟨hP2, hD2⟩ := mid_join hP hD hk1 hF hP1 hD1
  exact kk u H1 locs1 hw hP2 hD2 hS1
theorem mc_r {S : Type} {Q : S → Prop} {wc : va_W} {w : S → va_W} {v : Nat} {st0 rest : List Value} {a : Array Value} (X Y : va_W)
    (hr : va_Run p l e R s m args below meth c H locs cells slots mc ms (F0 m pc ls st0) rest (va_Qr Q (fun u a t => a = v ∧ mB D (va_A wc H.size) w u t) (va_A wc H.size) a) (va_A wc H.size))
    (hP : va_P D vwCl (X ++ (wc ++ Y)) H) (hD : va_D A0 (X ++ (wc ++ Y))) (hS : va_S A0 H0 H locs) (hA : ∀ q, H0.size ≤ q → A0 q)
    (kk : ∀ (u : S) (H1 : Heap) (locs1 : List Loc), Q u → va_P D vwCl (X ++ (w u ++ Y)) H1 → va_D A0 (X ++ (w u ++ Y)) → va_S A0 H0 H1 locs1 → W p l e R s m args below meth c H1 locs1 (cells + mc) (slots + ms) Qw (F0 m (pc + 3) ls (.ref v :: rest))) :
    W p l e R s m args below meth c H locs cells slots Qw (F0 m pc ls st0) := by
  have hF := mid_free hD hS hA
  refine va_callr hr hS (fun q _ h => hF q h) hF (fun u ra t H1 locs1 ht _ hw hB _ hk1 hS1 => ?_)
  obtain ⟨rfl, hP1, hD1⟩ := hB
  rw [ht] at hP1
  obtain ⟨hP2, hD2⟩ := mid_join hP hD hk1 hF hP1 hD1
  exact kk u H1 locs1 hw hP2 hD2 hS1
/-- a virtual call of a method of ours, run -/
theorem mr_V {Qc : Array Value → State → Outcome → State → Prop} {wc : va_W} {b : Nat} {As rest : List Value} (X Y : va_W) (S : CallFix p m c cc nL s args Ts own) (hM : Met l y ws rm (mPc D I O (.ref b :: As) wc H.size) Qc mc ms (va_A wc H.size)) (cw : CallW R s args own C index y bytes maxL ret ws rm mc ms n)
    (hK : sK D I O s) (hP : va_P D vwCl (X ++ (wc ++ Y)) H) (hD : va_D A0 (X ++ (wc ++ Y))) (q0 ci : Nat) {qq : vw_C} {fs : List Value} (hc : vwCl[ci]? = some qq) (hC : qq.1 = C) (he : wc[q0]? = some (b, .inr (ci, fs)))
    (hn : As.length = n) (hsize : ls.size = nL) {st0 : List Value} (hst : st0 = As.reverse ++ .ref b :: rest) (hW : (rest.map fun v => v.category).sum ≤ 8) (hdg : decode cc pc = .ok (.invokevirtual index, 3)) (hf : cells + mc ≤ R.cells ∧ slots + ms ≤ R.slots) :
    va_Run p l e R s m args below meth c H locs cells slots mc ms (F0 m pc ls st0) rest (Qc (Value.ref b :: As).toArray) (va_A wc H.size) := by
  subst hC
  exact va_runV S hM cw ⟨mPc_blind, va_recv hK.1 hP.mid hc he, mPc_at hP.mid hD.right.left hK⟩ rfl hn hsize hst (by show 2 * 0 + _ ≤ 8; omega) hdg hf
/-- a static call -/
theorem mr_S {Qc : Array Value → State → Outcome → State → Prop} {wc : va_W} {As rest : List Value} (X Y : va_W) (S : CallFix p m c cc nL s args Ts own) (hM : Met l y ws rm (mPc D I O As wc H.size) Qc mc ms (va_A wc H.size)) (cw : CallB R s args own index y bytes maxL ret ws rm mc ms n ∧ (Cond.static y).before args s = true)
    (hK : sK D I O s) (hP : va_P D vwCl (X ++ (wc ++ Y)) H) (hD : va_D A0 (X ++ (wc ++ Y)))
    (hn : As.length = n) (hsize : ls.size = nL) {st0 : List Value} (hst : st0 = As.reverse ++ rest) (hW : (rest.map fun v => v.category).sum ≤ 8) (hdg : decode cc pc = .ok (.invokestatic index, 3)) (hf : cells + mc ≤ R.cells ∧ slots + ms ≤ R.slots) :
    va_Run p l e R s m args below meth c H locs cells slots mc ms (F0 m pc ls st0) rest (Qc As.toArray) (va_A wc H.size) :=
  va_runS S hM cw ⟨mPc_blind, mPc_at hP.mid hD.right.left hK⟩ rfl hn hsize hst (by show 2 * 0 + _ ≤ 8; omega) hdg hf
/-- a static call of a nest mate's private method -/
theorem mr_SN {Qc : Array Value → State → Outcome → State → Prop} {host : String} {wc : va_W} {As rest : List Value} (X Y : va_W) (S : CallFix p m c cc nL s args Ts own) (hM : Met l y ws rm (mPc D I O As wc H.size) Qc mc ms (va_A wc H.size)) (cw : va_CN R s args own index y host bytes maxL ret ws rm mc ms n) (hstat : (Cond.static y).before args s = true)
    (hK : sK D I O s) (hP : va_P D vwCl (X ++ (wc ++ Y)) H) (hD : va_D A0 (X ++ (wc ++ Y)))
    (hn : As.length = n) (hsize : ls.size = nL) {st0 : List Value} (hst : st0 = As.reverse ++ rest) (hW : (rest.map fun v => v.category).sum ≤ 8) (hdg : decode cc pc = .ok (.invokestatic index, 3)) (hf : cells + mc ≤ R.cells ∧ slots + ms ≤ R.slots) :
    va_Run p l e R s m args below meth c H locs cells slots mc ms (F0 m pc ls st0) rest (Qc As.toArray) (va_A wc H.size) :=
  va_runSN S hM ⟨cw, hstat, trivial⟩ ⟨mPc_blind, mPc_at hP.mid hD.right.left hK⟩ rfl hn hsize hst (by show 2 * 0 + _ ≤ 8; omega) hdg hf
/-- a constructor's call -/
theorem mr_I {Qc : Array Value → State → Outcome → State → Prop} {wc : va_W} {b : Nat} {As rest : List Value} (X Y : va_W) (S : CallFix p m c cc nL s args Ts own) (hM : Met l y ws rm (mPc D I O (.ref b :: As) wc H.size) Qc mc ms (va_A wc H.size)) (cw : CallB R s args own index y bytes maxL none ws rm mc ms n ∧ y.name = "<init>" ∧ (Cond.instanceMethod y).before args s = true)
    (hK : sK D I O s) (hP : va_P D vwCl (X ++ (wc ++ Y)) H) (hD : va_D A0 (X ++ (wc ++ Y)))
    (hn : As.length = n) (hsize : ls.size = nL) {st0 : List Value} (hst : st0 = As.reverse ++ .ref b :: rest) (hW : (rest.map fun v => v.category).sum ≤ 8) (hdg : decode cc pc = .ok (.invokespecial index, 3)) (hf : cells + mc ≤ R.cells ∧ slots + ms ≤ R.slots) :
    va_Run p l e R s m args below meth c H locs cells slots mc ms (F0 m pc ls st0) rest (Qc (Value.ref b :: As).toArray) (va_A wc H.size) :=
  va_runI S hM cw ⟨mPc_blind, mPc_at hP.mid hD.right.left hK⟩ rfl hn hsize hst (by show 2 * 0 + _ ≤ 8; omega) hdg hf
end MC
end
section
/-! the pictures: a column, a well, the class's object, the reference's object; each a list of cells made of its addresses and its numbers -/
abbrev Col : Type := Int32 × (Nat → Int32) × (Nat → Int32) × Int32 × Int32 × Int64
abbrev zF (x : Col) : Int32 := x.1
abbrev zV (x : Col) : Nat → Int32 := x.2.1
abbrev zD (x : Col) : Nat → Int32 := x.2.2.1
abbrev zO (x : Col) : Int32 := x.2.2.2.1
abbrev zN (x : Col) : Int32 := x.2.2.2.2.1
abbrev zL (x : Col) : Int64 := x.2.2.2.2.2
abbrev CA : Type := Nat × Nat × Nat
def colB (I : ClassId) (a : CA) (x : Col) : va_W := [(a.1, .inr (0, [.int (zF x), .ref a.2.1, .ref a.2.2, .int (zO x), .int (zN x), .long (zL x)])), (a.2.1, .inl (I, 520, .inl (zV x))), (a.2.2, .inl (I, 520, .inl (zD x)))]
abbrev Wel : Type := Int32 × Int32 × Int32 × Int32 × Int32 × Int32 × Int32 × Int32 × Int32 × Int32 × Int32 × Col × Col
abbrev y0 (x : Wel) : Int32 := x.1
abbrev y1 (x : Wel) : Int32 := x.2.1
abbrev y2 (x : Wel) : Int32 := x.2.2.1
abbrev y3 (x : Wel) : Int32 := x.2.2.2.1
abbrev y4 (x : Wel) : Int32 := x.2.2.2.2.1
abbrev y5 (x : Wel) : Int32 := x.2.2.2.2.2.1
abbrev y6 (x : Wel) : Int32 := x.2.2.2.2.2.2.1
abbrev y7 (x : Wel) : Int32 := x.2.2.2.2.2.2.2.1
abbrev y8 (x : Wel) : Int32 := x.2.2.2.2.2.2.2.2.1
abbrev y9 (x : Wel) : Int32 := x.2.2.2.2.2.2.2.2.2.1
abbrev y10 (x : Wel) : Int32 := x.2.2.2.2.2.2.2.2.2.2.1
abbrev yP (x : Wel) : Col := x.2.2.2.2.2.2.2.2.2.2.2.1
abbrev yA (x : Wel) : Col := x.2.2.2.2.2.2.2.2.2.2.2.2
abbrev WA : Type := Nat × CA × CA
def welO (a : WA) (x : Wel) : Nat × va_E := (a.1, .inr (1, [.int (y0 x), .int (y1 x), .int (y2 x), .int (y3 x), .int (y4 x), .int (y5 x), .int (y6 x), .int (y7 x), .int (y8 x), .int (y9 x), .int (y10 x), .ref a.2.1.1, .ref a.2.2.1]))
def welB (I : ClassId) (a : WA) (x : Wel) : va_W := welO a x :: (colB I a.2.1 (yP x) ++ colB I a.2.2 (yA x))
abbrev Mod : Type := (Nat → Int32) × (Nat → Int32) × (Nat → Int32) × Int32 × (Nat → Int32) × Int64
abbrev mN (x : Mod) : Nat → Int32 := x.1
abbrev mA (x : Mod) : Nat → Int32 := x.2.1
abbrev mP (x : Mod) : Nat → Int32 := x.2.2.1
abbrev mS (x : Mod) : Int32 := x.2.2.2.1
abbrev mE (x : Mod) : Nat → Int32 := x.2.2.2.2.1
abbrev mH (x : Mod) : Int64 := x.2.2.2.2.2
/-- the addresses of the reference's object and of its arrays: now, aside, past, errors -/
abbrev MA : Type := Nat × Nat × Nat × Nat × Nat
def arB (I : ClassId) (a n : Nat) (f : Nat → Int32) : va_W := [(a, .inl (I, n, .inl f))]
def mdlO (a : MA) (x : Mod) : Nat × va_E := (a.1, .inr (3, [.ref a.2.1, .ref a.2.2.1, .ref a.2.2.2.1, .int (mS x), .ref a.2.2.2.2, .long (mH x)]))
def mdlW (I : ClassId) (a : MA) (x : Mod) : va_W := [mdlO a x, (a.2.2.2.2, .inl (I, 4, .inl (mE x))), (a.2.2.1, .inl (I, 4416, .inl (mA x))), (a.2.1, .inl (I, 4416, .inl (mN x))), (a.2.2.2.1, .inl (I, 17664, .inl (mP x)))]
abbrev Sys : Type := Wel × Wel × Wel × Wel × Wel × Wel × Int32 × (Nat → Int32)
abbrev sW (x : Sys) : Wel := x.1
abbrev sT (x : Sys) : Wel := x.2.1
abbrev s0 (x : Sys) : Wel := x.2.2.1
abbrev s1 (x : Sys) : Wel := x.2.2.2.1
abbrev s2 (x : Sys) : Wel := x.2.2.2.2.1
abbrev s3 (x : Sys) : Wel := x.2.2.2.2.2.1
abbrev sC (x : Sys) : Int32 := x.2.2.2.2.2.2.1
abbrev sE (x : Sys) : Nat → Int32 := x.2.2.2.2.2.2.2
/-- the addresses of the class's object: its own, the array of the saved, the counters, the six wells -/
abbrev SA : Type := Nat × Nat × Nat × WA × WA × WA × WA × WA × WA
def svF (a b c d : Nat) : Nat → Option Nat := fun k => match k with
  | 0 => some a
  | 1 => some b
  | 2 => some c
  | 3 => some d
  | _ => none
def sysH (I O : ClassId) (a : SA) (x : Sys) : va_W := [(a.1, .inr (2, [.ref a.2.2.2.1.1, .ref a.2.2.2.2.1.1, .ref a.2.1, .int (sC x), .ref a.2.2.1])), (a.2.1, .inl (O, 4, .inr (.inr (.inr (.inr (svF a.2.2.2.2.2.1.1 a.2.2.2.2.2.2.1.1 a.2.2.2.2.2.2.2.1.1 a.2.2.2.2.2.2.2.2.1)))))), (a.2.2.1, .inl (I, 4, .inl (sE x)))]
def sysW (I O : ClassId) (a : SA) (x : Sys) : va_W := sysH I O a x ++ (welB I a.2.2.2.1 (sW x) ++ (welB I a.2.2.2.2.1 (sT x) ++ (welB I a.2.2.2.2.2.1 (s0 x) ++ (welB I a.2.2.2.2.2.2.1 (s1 x) ++ (welB I a.2.2.2.2.2.2.2.1 (s2 x) ++ welB I a.2.2.2.2.2.2.2.2 (s3 x))))))
theorem va_D.mid {A : Nat → Prop} {X wc Y : va_W} (h : va_D A (X ++ (wc ++ Y))) : va_D A wc := h.right.left
section MCW
variable {p : Program} {l : Launch} {e : Env} {R : Room} {s : State} {m : MethodId} {args : Array Value} {below : List Frame} {meth : Method} {c : Code} {H : Heap} {locs : List Loc} {cells slots : Nat} {Qw : State → Prop}
variable {mc ms : Nat} {D : va_G} {A0 : Nat → Prop} {H0 : Heap} {pc : Nat} {ls : Array Slot}
/-- calls whose world is the caller's whole world -/
theorem mw_i {S : Type} {Q : Int32 → S → Prop} {wc : va_W} {w : S → va_W} {st0 rest : List Value} {a : Array Value}
    (hr : va_Run p l e R s m args below meth c H locs cells slots mc ms (F0 m pc ls st0) rest (va_Qi Q (mB D (va_A wc H.size) w) (va_A wc H.size) a) (va_A wc H.size))
    (hP : va_P D vwCl wc H) (hD : va_D A0 wc) (hS : va_S A0 H0 H locs) (hA : ∀ q, H0.size ≤ q → A0 q)
    (kk : ∀ (r : Int32) (u : S) (H1 : Heap) (locs1 : List Loc), Q r u → va_P D vwCl (w u) H1 → va_D A0 (w u) → va_S A0 H0 H1 locs1 → W p l e R s m args below meth c H1 locs1 (cells + mc) (slots + ms) Qw (F0 m (pc + 3) ls (.int r :: rest))) :
    W p l e R s m args below meth c H locs cells slots Qw (F0 m pc ls st0) :=
  mc_i [] [] hr (by simpa using hP) (by simpa using hD) hS hA (fun r u H1 locs1 hw h1 h2 h3 => kk r u H1 locs1 hw (by simpa using h1) (by simpa using h2) h3)
theorem mw_l {S : Type} {Q : Int64 → S → Prop} {wc : va_W} {w : S → va_W} {st0 rest : List Value} {a : Array Value}
    (hr : va_Run p l e R s m args below meth c H locs cells slots mc ms (F0 m pc ls st0) rest (va_Ql Q (mB D (va_A wc H.size) w) (va_A wc H.size) a) (va_A wc H.size))
    (hP : va_P D vwCl wc H) (hD : va_D A0 wc) (hS : va_S A0 H0 H locs) (hA : ∀ q, H0.size ≤ q → A0 q)
    (kk : ∀ (r : Int64) (u : S) (H1 : Heap) (locs1 : List Loc), Q r u → va_P D vwCl (w u) H1 → va_D A0 (w u) → va_S A0 H0 H1 locs1 → W p l e R s m args below meth c H1 locs1 (cells + mc) (slots + ms) Qw (F0 m (pc + 3) ls (.long r :: rest))) :
    W p l e R s m args below meth c H locs cells slots Qw (F0 m pc ls st0) :=
  mc_l [] [] hr (by simpa using hP) (by simpa using hD) hS hA (fun r u H1 locs1 hw h1 h2 h3 => kk r u H1 locs1 hw (by simpa using h1) (by simpa using h2) h3)
theorem mw_v {S : Type} {Q : S → Prop} {wc : va_W} {w : S → va_W} {st0 rest : List Value} {a : Array Value}
    (hr : va_Run p l e R s m args below meth c H locs cells slots mc ms (F0 m pc ls st0) rest (va_Qv Q (mB D (va_A wc H.size) w) (va_A wc H.size) a) (va_A wc H.size))
    (hP : va_P D vwCl wc H) (hD : va_D A0 wc) (hS : va_S A0 H0 H locs) (hA : ∀ q, H0.size ≤ q → A0 q)
    (kk : ∀ (u : S) (H1 : Heap) (locs1 : List Loc), Q u → va_P D vwCl (w u) H1 → va_D A0 (w u) → va_S A0 H0 H1 locs1 → W p l e R s m args below meth c H1 locs1 (cells + mc) (slots + ms) Qw (F0 m (pc + 3) ls rest)) :
    W p l e R s m args below meth c H locs cells slots Qw (F0 m pc ls st0) :=
  mc_v [] [] hr (by simpa using hP) (by simpa using hD) hS hA (fun u H1 locs1 hw h1 h2 h3 => kk u H1 locs1 hw (by simpa using h1) (by simpa using h2) h3)
theorem mw_r {S : Type} {Q : S → Prop} {wc : va_W} {w : S → va_W} {v : Nat} {st0 rest : List Value} {a : Array Value}
    (hr : va_Run p l e R s m args below meth c H locs cells slots mc ms (F0 m pc ls st0) rest (va_Qr Q (fun u a t => a = v ∧ mB D (va_A wc H.size) w u t) (va_A wc H.size) a) (va_A wc H.size))
    (hP : va_P D vwCl wc H) (hD : va_D A0 wc) (hS : va_S A0 H0 H locs) (hA : ∀ q, H0.size ≤ q → A0 q)
    (kk : ∀ (u : S) (H1 : Heap) (locs1 : List Loc), Q u → va_P D vwCl (w u) H1 → va_D A0 (w u) → va_S A0 H0 H1 locs1 → W p l e R s m args below meth c H1 locs1 (cells + mc) (slots + ms) Qw (F0 m (pc + 3) ls (.ref v :: rest))) :
    W p l e R s m args below meth c H locs cells slots Qw (F0 m pc ls st0) :=
  mc_r [] [] hr (by simpa using hP) (by simpa using hD) hS hA (fun u H1 locs1 hw h1 h2 h3 => kk u H1 locs1 hw (by simpa using h1) (by simpa using h2) h3)
/-- calls that touch no cell -/
theorem m0_i {S : Type} {Q : Int32 → S → Prop} {w0 : va_W} {st0 rest : List Value} {a : Array Value}
    (hr : va_Run p l e R s m args below meth c H locs cells slots mc ms (F0 m pc ls st0) rest (va_Qi Q (mB D (va_A [] H.size) (fun _ => [])) (va_A [] H.size) a) (va_A [] H.size))
    (hP : va_P D vwCl w0 H) (hD : va_D A0 w0) (hS : va_S A0 H0 H locs) (hA : ∀ q, H0.size ≤ q → A0 q)
    (kk : ∀ (r : Int32) (u : S) (H1 : Heap) (locs1 : List Loc), Q r u → va_P D vwCl w0 H1 → va_D A0 w0 → va_S A0 H0 H1 locs1 → W p l e R s m args below meth c H1 locs1 (cells + mc) (slots + ms) Qw (F0 m (pc + 3) ls (.int r :: rest))) :
    W p l e R s m args below meth c H locs cells slots Qw (F0 m pc ls st0) :=
  mc_i w0 [] hr (by simpa using hP) (by simpa using hD) hS hA (fun r u H1 locs1 hw h1 h2 h3 => kk r u H1 locs1 hw (by simpa using h1) (by simpa using h2) h3)
theorem m0_l {S : Type} {Q : Int64 → S → Prop} {w0 : va_W} {st0 rest : List Value} {a : Array Value}
    (hr : va_Run p l e R s m args below meth c H locs cells slots mc ms (F0 m pc ls st0) rest (va_Ql Q (mB D (va_A [] H.size) (fun _ => [])) (va_A [] H.size) a) (va_A [] H.size))
    (hP : va_P D vwCl w0 H) (hD : va_D A0 w0) (hS : va_S A0 H0 H locs) (hA : ∀ q, H0.size ≤ q → A0 q)
    (kk : ∀ (r : Int64) (u : S) (H1 : Heap) (locs1 : List Loc), Q r u → va_P D vwCl w0 H1 → va_D A0 w0 → va_S A0 H0 H1 locs1 → W p l e R s m args below meth c H1 locs1 (cells + mc) (slots + ms) Qw (F0 m (pc + 3) ls (.long r :: rest))) :
    W p l e R s m args below meth c H locs cells slots Qw (F0 m pc ls st0) :=
  mc_l w0 [] hr (by simpa using hP) (by simpa using hD) hS hA (fun r u H1 locs1 hw h1 h2 h3 => kk r u H1 locs1 hw (by simpa using h1) (by simpa using h2) h3)
end MCW
theorem nil_P {D : va_G} {H : Heap} : va_P D vwCl [] H := fun k q h => by simp at h
theorem nil_D {A : Nat → Prop} : va_D A [] := ⟨fun i j p q h => by simp at h, fun k q h => by simp at h⟩
section MV
variable {p : Program} {l : Launch} {e : Env} {R : Room} {s : State} {m : MethodId} {args : Array Value} {below : List Frame} {meth : Method} {c : Code} {H : Heap} {locs : List Loc} {cells slots : Nat}
variable {y : MethodName} {bytes cc : ByteArray} {maxL nL mc ms n index : Nat} {ret : Option FieldType} {ws : List Cond} {rm : Room} {Ts : List Cond} {own C : String} {D : va_G} {I O : ClassId} {A0 : Nat → Prop} {pc : Nat} {ls : Array Slot}
/-- the same calls, run, over the callee's own world -/
theorem mv_V {Qc : Array Value → State → Outcome → State → Prop} {wc : va_W} {b : Nat} {As rest : List Value} (S : CallFix p m c cc nL s args Ts own) (hM : Met l y ws rm (mPc D I O (.ref b :: As) wc H.size) Qc mc ms (va_A wc H.size)) (cw : CallW R s args own C index y bytes maxL ret ws rm mc ms n)
    (hK : sK D I O s) (hP : va_P D vwCl wc H) (hD : va_D A0 wc) (q0 ci : Nat) {qq : vw_C} {fs : List Value} (hc : vwCl[ci]? = some qq) (hC : qq.1 = C) (he : wc[q0]? = some (b, .inr (ci, fs)))
    (hn : As.length = n) (hsize : ls.size = nL) {st0 : List Value} (hst : st0 = As.reverse ++ .ref b :: rest) (hW : (rest.map fun v => v.category).sum ≤ 8) (hdg : decode cc pc = .ok (.invokevirtual index, 3)) (hf : cells + mc ≤ R.cells ∧ slots + ms ≤ R.slots) :
    va_Run p l e R s m args below meth c H locs cells slots mc ms (F0 m pc ls st0) rest (Qc (Value.ref b :: As).toArray) (va_A wc H.size) := by
  subst hC
  exact va_runV S hM cw ⟨mPc_blind, va_recv hK.1 hP hc he, mPc_at hP hD hK⟩ rfl hn hsize hst (by show 2 * 0 + _ ≤ 8; omega) hdg hf
theorem mv_S {Qc : Array Value → State → Outcome → State → Prop} {wc : va_W} {As rest : List Value} (S : CallFix p m c cc nL s args Ts own) (hM : Met l y ws rm (mPc D I O As wc H.size) Qc mc ms (va_A wc H.size)) (cw : CallB R s args own index y bytes maxL ret ws rm mc ms n ∧ (Cond.static y).before args s = true)
    (hK : sK D I O s) (hP : va_P D vwCl wc H) (hD : va_D A0 wc)
    (hn : As.length = n) (hsize : ls.size = nL) {st0 : List Value} (hst : st0 = As.reverse ++ rest) (hW : (rest.map fun v => v.category).sum ≤ 8) (hdg : decode cc pc = .ok (.invokestatic index, 3)) (hf : cells + mc ≤ R.cells ∧ slots + ms ≤ R.slots) :
    va_Run p l e R s m args below meth c H locs cells slots mc ms (F0 m pc ls st0) rest (Qc As.toArray) (va_A wc H.size) :=
  va_runS S hM cw ⟨mPc_blind, mPc_at hP hD hK⟩ rfl hn hsize hst (by show 2 * 0 + _ ≤ 8; omega) hdg hf
theorem mv_SN {Qc : Array Value → State → Outcome → State → Prop} {host : String} {wc : va_W} {As rest : List Value} (S : CallFix p m c cc nL s args Ts own) (hM : Met l y ws rm (mPc D I O As wc H.size) Qc mc ms (va_A wc H.size)) (cw : va_CN R s args own index y host bytes maxL ret ws rm mc ms n) (hstat : (Cond.static y).before args s = true)
    (hK : sK D I O s) (hP : va_P D vwCl wc H) (hD : va_D A0 wc)
    (hn : As.length = n) (hsize : ls.size = nL) {st0 : List Value} (hst : st0 = As.reverse ++ rest) (hW : (rest.map fun v => v.category).sum ≤ 8) (hdg : decode cc pc = .ok (.invokestatic index, 3)) (hf : cells + mc ≤ R.cells ∧ slots + ms ≤ R.slots) :
    va_Run p l e R s m args below meth c H locs cells slots mc ms (F0 m pc ls st0) rest (Qc As.toArray) (va_A wc H.size) :=
  va_runSN S hM ⟨cw, hstat, trivial⟩ ⟨mPc_blind, mPc_at hP hD hK⟩ rfl hn hsize hst (by show 2 * 0 + _ ≤ 8; omega) hdg hf
theorem mv_I {Qc : Array Value → State → Outcome → State → Prop} {wc : va_W} {b : Nat} {As rest : List Value} (S : CallFix p m c cc nL s args Ts own) (hM : Met l y ws rm (mPc D I O (.ref b :: As) wc H.size) Qc mc ms (va_A wc H.size)) (cw : CallB R s args own index y bytes maxL none ws rm mc ms n ∧ y.name = "<init>" ∧ (Cond.instanceMethod y).before args s = true)
    (hK : sK D I O s) (hP : va_P D vwCl wc H) (hD : va_D A0 wc)
    (hn : As.length = n) (hsize : ls.size = nL) {st0 : List Value} (hst : st0 = As.reverse ++ .ref b :: rest) (hW : (rest.map fun v => v.category).sum ≤ 8) (hdg : decode cc pc = .ok (.invokespecial index, 3)) (hf : cells + mc ≤ R.cells ∧ slots + ms ≤ R.slots) :
    va_Run p l e R s m args below meth c H locs cells slots mc ms (F0 m pc ls st0) rest (Qc (Value.ref b :: As).toArray) (va_A wc H.size) :=
  va_runI S hM cw ⟨mPc_blind, mPc_at hP hD hK⟩ rfl hn hsize hst (by show 2 * 0 + _ ≤ 8; omega) hdg hf
end MV
theorem vp_c (i : Int32) (n : Nat) (h : ¬ (i < 0 ∨ n ≤ i.toNatClampNeg)) : vp_in i n := h
set_option maxHeartbeats 4000000 in
/-- the same, of a member of the JDK that the machine has no entry for -/
theorem m_startF {l : Launch} {y : MethodName} {ws ws' : List Cond} {rm : Room} {Qc : Array Value → State → Outcome → State → Prop} {mc ms : Nat} {cc : ByteArray} {maxL : Nat} {ret : Option FieldType} {D : va_G} {I O : ClassId} {av : List Value} {w0 : va_W} {sz : Nat}
    (hy : plainFor y = true) (hw : ws = Cond.code y cc maxL ret :: ws') (hlen : (lg_sl av).length ≤ maxL)
    (body : ∀ (p : Program) (e : Env) (s : State) (m : MethodId) (below : List Frame) (meth : Method) (c : Code) (ls : Array Slot) (H : Heap) (locs : List Loc), p.tables.exec = Jvm.exec → c.code = cc → meth.sig.returnType = ret → c.maxLocals = maxL → (∀ w ∈ ws, w.before av.toArray s = true) → s.vm.findClass y.cls = some m.cls → meth.locks = false → meth.name = y.name → sK D I O s → va_P D vwCl w0 H → va_D (va_A w0 sz) w0 → (∀ q, s.heap.size ≤ q → va_A w0 sz q) → va_S (va_A w0 sz) s.heap H locs → lv_has ls maxL (lv_args 0 av) →
      W p l e rm s m av.toArray below meth c H locs 0 0 (MQ below Qc av.toArray s mc ms (va_A w0 sz)) (F0 m 0 ls [])) : Met l y ws rm (mPc D I O av w0 sz) Qc mc ms (va_A w0 sz) := by
  refine va_MetF (cc := cc) (maxL := maxL) (ret := ret) hy hw ?_
  intro p e s m args below meth c s₁ B hml hv
  obtain ⟨rfl, hsz, hP, hK, hD0⟩ := hv
  have hl := lv_entry av (n := maxL) hlen
  rw [lg_entry_eq]
  subst hsz
  exact body p e s m below meth c _ _ _ B.exec B.bytes B.returns hml (atoms_spec (ws := ws) B.pre) (findClass_of_methodNamed B.named) B.notSynchronized (name_of_methodNamed B.named B.method).1 hK hP hD0.self (fun q h => Or.inr h) va_S.rf hl
end
section
/-! rooms, and what a call asks of a name -/
abbrev rX0_init : Room := { frames := 1, cells := 2, slots := 1040, locals := 20 }
theorem hdSX0_init : yX0_init.cls ≠ "java/lang/invoke/MethodHandle" ∧ yX0_init.cls ≠ "java/lang/invoke/VarHandle" ∧ (parseMethodDescriptor yX0_init.desc).map (fun d => d.parameters.length) = some 1 := by decide +kernel
theorem hdVX0_init : yX0_init.cls = RX0 ∧ yX0_init.cls ≠ "java/lang/invoke/MethodHandle" ∧ yX0_init.cls ≠ "java/lang/invoke/VarHandle" ∧ (parseMethodDescriptor yX0_init.desc).map (fun d => d.parameters.length) = some 1 := by decide +kernel
abbrev rX0_clear : Room := { frames := 0, cells := 0, slots := 0, locals := 0 }
theorem hdSX0_clear : yX0_clear.cls ≠ "java/lang/invoke/MethodHandle" ∧ yX0_clear.cls ≠ "java/lang/invoke/VarHandle" ∧ (parseMethodDescriptor yX0_clear.desc).map (fun d => d.parameters.length) = some 0 := by decide +kernel
theorem hdVX0_clear : yX0_clear.cls = RX0 ∧ yX0_clear.cls ≠ "java/lang/invoke/MethodHandle" ∧ yX0_clear.cls ≠ "java/lang/invoke/VarHandle" ∧ (parseMethodDescriptor yX0_clear.desc).map (fun d => d.parameters.length) = some 0 := by decide +kernel
abbrev rX0_copyFrom : Room := { frames := 4, cells := 0, slots := 0, locals := 87 }
theorem hdSX0_copyFrom : yX0_copyFrom.cls ≠ "java/lang/invoke/MethodHandle" ∧ yX0_copyFrom.cls ≠ "java/lang/invoke/VarHandle" ∧ (parseMethodDescriptor yX0_copyFrom.desc).map (fun d => d.parameters.length) = some 1 := by decide +kernel
theorem hdVX0_copyFrom : yX0_copyFrom.cls = RX0 ∧ yX0_copyFrom.cls ≠ "java/lang/invoke/MethodHandle" ∧ yX0_copyFrom.cls ≠ "java/lang/invoke/VarHandle" ∧ (parseMethodDescriptor yX0_copyFrom.desc).map (fun d => d.parameters.length) = some 1 := by decide +kernel
abbrev rX0_placeOfAge : Room := { frames := 1, cells := 0, slots := 0, locals := 22 }
theorem hdSX0_placeOfAge : yX0_placeOfAge.cls ≠ "java/lang/invoke/MethodHandle" ∧ yX0_placeOfAge.cls ≠ "java/lang/invoke/VarHandle" ∧ (parseMethodDescriptor yX0_placeOfAge.desc).map (fun d => d.parameters.length) = some 1 := by decide +kernel
theorem hdVX0_placeOfAge : yX0_placeOfAge.cls = RX0 ∧ yX0_placeOfAge.cls ≠ "java/lang/invoke/MethodHandle" ∧ yX0_placeOfAge.cls ≠ "java/lang/invoke/VarHandle" ∧ (parseMethodDescriptor yX0_placeOfAge.desc).map (fun d => d.parameters.length) = some 1 := by decide +kernel
abbrev rX0_placeOfIndex : Room := { frames := 1, cells := 0, slots := 0, locals := 22 }
theorem hdSX0_placeOfIndex : yX0_placeOfIndex.cls ≠ "java/lang/invoke/MethodHandle" ∧ yX0_placeOfIndex.cls ≠ "java/lang/invoke/VarHandle" ∧ (parseMethodDescriptor yX0_placeOfIndex.desc).map (fun d => d.parameters.length) = some 1 := by decide +kernel
theorem hdVX0_placeOfIndex : yX0_placeOfIndex.cls = RX0 ∧ yX0_placeOfIndex.cls ≠ "java/lang/invoke/MethodHandle" ∧ yX0_placeOfIndex.cls ≠ "java/lang/invoke/VarHandle" ∧ (parseMethodDescriptor yX0_placeOfIndex.desc).map (fun d => d.parameters.length) = some 1 := by decide +kernel
abbrev rX0_volumeOf : Room := { frames := 2, cells := 0, slots := 0, locals := 44 }
theorem hdSX0_volumeOf : yX0_volumeOf.cls ≠ "java/lang/invoke/MethodHandle" ∧ yX0_volumeOf.cls ≠ "java/lang/invoke/VarHandle" ∧ (parseMethodDescriptor yX0_volumeOf.desc).map (fun d => d.parameters.length) = some 1 := by decide +kernel
theorem hdVX0_volumeOf : yX0_volumeOf.cls = RX0 ∧ yX0_volumeOf.cls ≠ "java/lang/invoke/MethodHandle" ∧ yX0_volumeOf.cls ≠ "java/lang/invoke/VarHandle" ∧ (parseMethodDescriptor yX0_volumeOf.desc).map (fun d => d.parameters.length) = some 1 := by decide +kernel
abbrev rX0_densityOf : Room := { frames := 2, cells := 0, slots := 0, locals := 44 }
theorem hdSX0_densityOf : yX0_densityOf.cls ≠ "java/lang/invoke/MethodHandle" ∧ yX0_densityOf.cls ≠ "java/lang/invoke/VarHandle" ∧ (parseMethodDescriptor yX0_densityOf.desc).map (fun d => d.parameters.length) = some 1 := by decide +kernel
theorem hdVX0_densityOf : yX0_densityOf.cls = RX0 ∧ yX0_densityOf.cls ≠ "java/lang/invoke/MethodHandle" ∧ yX0_densityOf.cls ≠ "java/lang/invoke/VarHandle" ∧ (parseMethodDescriptor yX0_densityOf.desc).map (fun d => d.parameters.length) = some 1 := by decide +kernel
abbrev rX0_enter : Room := { frames := 3, cells := 0, slots := 0, locals := 64 }
theorem hdSX0_enter : yX0_enter.cls ≠ "java/lang/invoke/MethodHandle" ∧ yX0_enter.cls ≠ "java/lang/invoke/VarHandle" ∧ (parseMethodDescriptor yX0_enter.desc).map (fun d => d.parameters.length) = some 2 := by decide +kernel
theorem hdVX0_enter : yX0_enter.cls = RX0 ∧ yX0_enter.cls ≠ "java/lang/invoke/MethodHandle" ∧ yX0_enter.cls ≠ "java/lang/invoke/VarHandle" ∧ (parseMethodDescriptor yX0_enter.desc).map (fun d => d.parameters.length) = some 2 := by decide +kernel
abbrev rX0_joinsNewest : Room := { frames := 2, cells := 0, slots := 0, locals := 43 }
theorem hdSX0_joinsNewest : yX0_joinsNewest.cls ≠ "java/lang/invoke/MethodHandle" ∧ yX0_joinsNewest.cls ≠ "java/lang/invoke/VarHandle" ∧ (parseMethodDescriptor yX0_joinsNewest.desc).map (fun d => d.parameters.length) = some 1 := by decide +kernel
theorem hdVX0_joinsNewest : yX0_joinsNewest.cls = RX0 ∧ yX0_joinsNewest.cls ≠ "java/lang/invoke/MethodHandle" ∧ yX0_joinsNewest.cls ≠ "java/lang/invoke/VarHandle" ∧ (parseMethodDescriptor yX0_joinsNewest.desc).map (fun d => d.parameters.length) = some 1 := by decide +kernel
abbrev rX0_release : Room := { frames := 3, cells := 0, slots := 0, locals := 66 }
theorem hdSX0_release : yX0_release.cls ≠ "java/lang/invoke/MethodHandle" ∧ yX0_release.cls ≠ "java/lang/invoke/VarHandle" ∧ (parseMethodDescriptor yX0_release.desc).map (fun d => d.parameters.length) = some 1 := by decide +kernel
theorem hdVX0_release : yX0_release.cls = RX0 ∧ yX0_release.cls ≠ "java/lang/invoke/MethodHandle" ∧ yX0_release.cls ≠ "java/lang/invoke/VarHandle" ∧ (parseMethodDescriptor yX0_release.desc).map (fun d => d.parameters.length) = some 1 := by decide +kernel
abbrev rX0_releaseInto : Room := { frames := 4, cells := 0, slots := 0, locals := 87 }
theorem hdSX0_releaseInto : yX0_releaseInto.cls ≠ "java/lang/invoke/MethodHandle" ∧ yX0_releaseInto.cls ≠ "java/lang/invoke/VarHandle" ∧ (parseMethodDescriptor yX0_releaseInto.desc).map (fun d => d.parameters.length) = some 2 := by decide +kernel
theorem hdVX0_releaseInto : yX0_releaseInto.cls = RX0 ∧ yX0_releaseInto.cls ≠ "java/lang/invoke/MethodHandle" ∧ yX0_releaseInto.cls ≠ "java/lang/invoke/VarHandle" ∧ (parseMethodDescriptor yX0_releaseInto.desc).map (fun d => d.parameters.length) = some 2 := by decide +kernel
abbrev rX0_releaseOldest : Room := { frames := 2, cells := 0, slots := 0, locals := 43 }
theorem hdSX0_releaseOldest : yX0_releaseOldest.cls ≠ "java/lang/invoke/MethodHandle" ∧ yX0_releaseOldest.cls ≠ "java/lang/invoke/VarHandle" ∧ (parseMethodDescriptor yX0_releaseOldest.desc).map (fun d => d.parameters.length) = some 1 := by decide +kernel
theorem hdVX0_releaseOldest : yX0_releaseOldest.cls = RX0 ∧ yX0_releaseOldest.cls ≠ "java/lang/invoke/MethodHandle" ∧ yX0_releaseOldest.cls ≠ "java/lang/invoke/VarHandle" ∧ (parseMethodDescriptor yX0_releaseOldest.desc).map (fun d => d.parameters.length) = some 1 := by decide +kernel
abbrev rX0_loadAbove : Room := { frames := 2, cells := 0, slots := 0, locals := 44 }
theorem hdSX0_loadAbove : yX0_loadAbove.cls ≠ "java/lang/invoke/MethodHandle" ∧ yX0_loadAbove.cls ≠ "java/lang/invoke/VarHandle" ∧ (parseMethodDescriptor yX0_loadAbove.desc).map (fun d => d.parameters.length) = some 1 := by decide +kernel
theorem hdVX0_loadAbove : yX0_loadAbove.cls = RX0 ∧ yX0_loadAbove.cls ≠ "java/lang/invoke/MethodHandle" ∧ yX0_loadAbove.cls ≠ "java/lang/invoke/VarHandle" ∧ (parseMethodDescriptor yX0_loadAbove.desc).map (fun d => d.parameters.length) = some 1 := by decide +kernel
abbrev rX0_mixedLayers : Room := { frames := 2, cells := 0, slots := 0, locals := 44 }
theorem hdSX0_mixedLayers : yX0_mixedLayers.cls ≠ "java/lang/invoke/MethodHandle" ∧ yX0_mixedLayers.cls ≠ "java/lang/invoke/VarHandle" ∧ (parseMethodDescriptor yX0_mixedLayers.desc).map (fun d => d.parameters.length) = some 1 := by decide +kernel
theorem hdVX0_mixedLayers : yX0_mixedLayers.cls = RX0 ∧ yX0_mixedLayers.cls ≠ "java/lang/invoke/MethodHandle" ∧ yX0_mixedLayers.cls ≠ "java/lang/invoke/VarHandle" ∧ (parseMethodDescriptor yX0_mixedLayers.desc).map (fun d => d.parameters.length) = some 1 := by decide +kernel
abbrev rX1_init : Room := { frames := 5, cells := 6, slots := 2092, locals := 107 }
theorem hdSX1_init : yX1_init.cls ≠ "java/lang/invoke/MethodHandle" ∧ yX1_init.cls ≠ "java/lang/invoke/VarHandle" ∧ (parseMethodDescriptor yX1_init.desc).map (fun d => d.parameters.length) = some 0 := by decide +kernel
theorem hdVX1_init : yX1_init.cls = RX1 ∧ yX1_init.cls ≠ "java/lang/invoke/MethodHandle" ∧ yX1_init.cls ≠ "java/lang/invoke/VarHandle" ∧ (parseMethodDescriptor yX1_init.desc).map (fun d => d.parameters.length) = some 0 := by decide +kernel
abbrev rX1_startAnew : Room := { frames := 4, cells := 0, slots := 0, locals := 87 }
theorem hdSX1_startAnew : yX1_startAnew.cls ≠ "java/lang/invoke/MethodHandle" ∧ yX1_startAnew.cls ≠ "java/lang/invoke/VarHandle" ∧ (parseMethodDescriptor yX1_startAnew.desc).map (fun d => d.parameters.length) = some 0 := by decide +kernel
theorem hdVX1_startAnew : yX1_startAnew.cls = RX1 ∧ yX1_startAnew.cls ≠ "java/lang/invoke/MethodHandle" ∧ yX1_startAnew.cls ≠ "java/lang/invoke/VarHandle" ∧ (parseMethodDescriptor yX1_startAnew.desc).map (fun d => d.parameters.length) = some 0 := by decide +kernel
abbrev rX1_copyFrom : Room := { frames := 5, cells := 0, slots := 0, locals := 110 }
theorem hdSX1_copyFrom : yX1_copyFrom.cls ≠ "java/lang/invoke/MethodHandle" ∧ yX1_copyFrom.cls ≠ "java/lang/invoke/VarHandle" ∧ (parseMethodDescriptor yX1_copyFrom.desc).map (fun d => d.parameters.length) = some 1 := by decide +kernel
theorem hdVX1_copyFrom : yX1_copyFrom.cls = RX1 ∧ yX1_copyFrom.cls ≠ "java/lang/invoke/MethodHandle" ∧ yX1_copyFrom.cls ≠ "java/lang/invoke/VarHandle" ∧ (parseMethodDescriptor yX1_copyFrom.desc).map (fun d => d.parameters.length) = some 1 := by decide +kernel
abbrev rX1_pipeVolume : Room := { frames := 0, cells := 0, slots := 0, locals := 0 }
theorem hdSX1_pipeVolume : yX1_pipeVolume.cls ≠ "java/lang/invoke/MethodHandle" ∧ yX1_pipeVolume.cls ≠ "java/lang/invoke/VarHandle" ∧ (parseMethodDescriptor yX1_pipeVolume.desc).map (fun d => d.parameters.length) = some 0 := by decide +kernel
theorem hdVX1_pipeVolume : yX1_pipeVolume.cls = RX1 ∧ yX1_pipeVolume.cls ≠ "java/lang/invoke/MethodHandle" ∧ yX1_pipeVolume.cls ≠ "java/lang/invoke/VarHandle" ∧ (parseMethodDescriptor yX1_pipeVolume.desc).map (fun d => d.parameters.length) = some 0 := by decide +kernel
abbrev rX1_annulusVolume : Room := { frames := 0, cells := 0, slots := 0, locals := 0 }
theorem hdSX1_annulusVolume : yX1_annulusVolume.cls ≠ "java/lang/invoke/MethodHandle" ∧ yX1_annulusVolume.cls ≠ "java/lang/invoke/VarHandle" ∧ (parseMethodDescriptor yX1_annulusVolume.desc).map (fun d => d.parameters.length) = some 0 := by decide +kernel
theorem hdVX1_annulusVolume : yX1_annulusVolume.cls = RX1 ∧ yX1_annulusVolume.cls ≠ "java/lang/invoke/MethodHandle" ∧ yX1_annulusVolume.cls ≠ "java/lang/invoke/VarHandle" ∧ (parseMethodDescriptor yX1_annulusVolume.desc).map (fun d => d.parameters.length) = some 0 := by decide +kernel
abbrev rX1_column : Room := { frames := 0, cells := 0, slots := 0, locals := 0 }
theorem hdSX1_column : yX1_column.cls ≠ "java/lang/invoke/MethodHandle" ∧ yX1_column.cls ≠ "java/lang/invoke/VarHandle" ∧ (parseMethodDescriptor yX1_column.desc).map (fun d => d.parameters.length) = some 1 := by decide +kernel
theorem hdVX1_column : yX1_column.cls = RX1 ∧ yX1_column.cls ≠ "java/lang/invoke/MethodHandle" ∧ yX1_column.cls ≠ "java/lang/invoke/VarHandle" ∧ (parseMethodDescriptor yX1_column.desc).map (fun d => d.parameters.length) = some 1 := by decide +kernel
abbrev rX1_capacity : Room := { frames := 0, cells := 0, slots := 0, locals := 0 }
theorem hdSX1_capacity : yX1_capacity.cls ≠ "java/lang/invoke/MethodHandle" ∧ yX1_capacity.cls ≠ "java/lang/invoke/VarHandle" ∧ (parseMethodDescriptor yX1_capacity.desc).map (fun d => d.parameters.length) = some 1 := by decide +kernel
theorem hdVX1_capacity : yX1_capacity.cls = RX1 ∧ yX1_capacity.cls ≠ "java/lang/invoke/MethodHandle" ∧ yX1_capacity.cls ≠ "java/lang/invoke/VarHandle" ∧ (parseMethodDescriptor yX1_capacity.desc).map (fun d => d.parameters.length) = some 1 := by decide +kernel
abbrev rX1_canCirculate : Room := { frames := 1, cells := 0, slots := 0, locals := 20 }
theorem hdSX1_canCirculate : yX1_canCirculate.cls ≠ "java/lang/invoke/MethodHandle" ∧ yX1_canCirculate.cls ≠ "java/lang/invoke/VarHandle" ∧ (parseMethodDescriptor yX1_canCirculate.desc).map (fun d => d.parameters.length) = some 1 := by decide +kernel
theorem hdVX1_canCirculate : yX1_canCirculate.cls = RX1 ∧ yX1_canCirculate.cls ≠ "java/lang/invoke/MethodHandle" ∧ yX1_canCirculate.cls ≠ "java/lang/invoke/VarHandle" ∧ (parseMethodDescriptor yX1_canCirculate.desc).map (fun d => d.parameters.length) = some 1 := by decide +kernel
abbrev rX1_circulate : Room := { frames := 5, cells := 0, slots := 0, locals := 113 }
theorem hdSX1_circulate : yX1_circulate.cls ≠ "java/lang/invoke/MethodHandle" ∧ yX1_circulate.cls ≠ "java/lang/invoke/VarHandle" ∧ (parseMethodDescriptor yX1_circulate.desc).map (fun d => d.parameters.length) = some 2 := by decide +kernel
theorem hdVX1_circulate : yX1_circulate.cls = RX1 ∧ yX1_circulate.cls ≠ "java/lang/invoke/MethodHandle" ∧ yX1_circulate.cls ≠ "java/lang/invoke/VarHandle" ∧ (parseMethodDescriptor yX1_circulate.desc).map (fun d => d.parameters.length) = some 2 := by decide +kernel
abbrev rX1_circulateInSteps : Room := { frames := 6, cells := 0, slots := 0, locals := 135 }
theorem hdSX1_circulateInSteps : yX1_circulateInSteps.cls ≠ "java/lang/invoke/MethodHandle" ∧ yX1_circulateInSteps.cls ≠ "java/lang/invoke/VarHandle" ∧ (parseMethodDescriptor yX1_circulateInSteps.desc).map (fun d => d.parameters.length) = some 3 := by decide +kernel
theorem hdVX1_circulateInSteps : yX1_circulateInSteps.cls = RX1 ∧ yX1_circulateInSteps.cls ≠ "java/lang/invoke/MethodHandle" ∧ yX1_circulateInSteps.cls ≠ "java/lang/invoke/VarHandle" ∧ (parseMethodDescriptor yX1_circulateInSteps.desc).map (fun d => d.parameters.length) = some 3 := by decide +kernel
abbrev rX1_letIn : Room := { frames := 4, cells := 0, slots := 0, locals := 89 }
theorem hdSX1_letIn : yX1_letIn.cls ≠ "java/lang/invoke/MethodHandle" ∧ yX1_letIn.cls ≠ "java/lang/invoke/VarHandle" ∧ (parseMethodDescriptor yX1_letIn.desc).map (fun d => d.parameters.length) = some 2 := by decide +kernel
theorem hdVX1_letIn : yX1_letIn.cls = RX1 ∧ yX1_letIn.cls ≠ "java/lang/invoke/MethodHandle" ∧ yX1_letIn.cls ≠ "java/lang/invoke/VarHandle" ∧ (parseMethodDescriptor yX1_letIn.desc).map (fun d => d.parameters.length) = some 2 := by decide +kernel
abbrev rX1_checkShoe : Room := { frames := 5, cells := 0, slots := 0, locals := 114 }
theorem hdSX1_checkShoe : yX1_checkShoe.cls ≠ "java/lang/invoke/MethodHandle" ∧ yX1_checkShoe.cls ≠ "java/lang/invoke/VarHandle" ∧ (parseMethodDescriptor yX1_checkShoe.desc).map (fun d => d.parameters.length) = some 0 := by decide +kernel
theorem hdVX1_checkShoe : yX1_checkShoe.cls = RX1 ∧ yX1_checkShoe.cls ≠ "java/lang/invoke/MethodHandle" ∧ yX1_checkShoe.cls ≠ "java/lang/invoke/VarHandle" ∧ (parseMethodDescriptor yX1_checkShoe.desc).map (fun d => d.parameters.length) = some 0 := by decide +kernel
abbrev rX1_pressureOfWhole : Room := { frames := 2, cells := 0, slots := 0, locals := 43 }
theorem hdSX1_pressureOfWhole : yX1_pressureOfWhole.cls ≠ "java/lang/invoke/MethodHandle" ∧ yX1_pressureOfWhole.cls ≠ "java/lang/invoke/VarHandle" ∧ (parseMethodDescriptor yX1_pressureOfWhole.desc).map (fun d => d.parameters.length) = some 1 := by decide +kernel
theorem hdVX1_pressureOfWhole : yX1_pressureOfWhole.cls = RX1 ∧ yX1_pressureOfWhole.cls ≠ "java/lang/invoke/MethodHandle" ∧ yX1_pressureOfWhole.cls ≠ "java/lang/invoke/VarHandle" ∧ (parseMethodDescriptor yX1_pressureOfWhole.desc).map (fun d => d.parameters.length) = some 1 := by decide +kernel
abbrev rX1_pressureOfPart : Room := { frames := 3, cells := 0, slots := 0, locals := 71 }
theorem hdSX1_pressureOfPart : yX1_pressureOfPart.cls ≠ "java/lang/invoke/MethodHandle" ∧ yX1_pressureOfPart.cls ≠ "java/lang/invoke/VarHandle" ∧ (parseMethodDescriptor yX1_pressureOfPart.desc).map (fun d => d.parameters.length) = some 2 := by decide +kernel
theorem hdVX1_pressureOfPart : yX1_pressureOfPart.cls = RX1 ∧ yX1_pressureOfPart.cls ≠ "java/lang/invoke/MethodHandle" ∧ yX1_pressureOfPart.cls ≠ "java/lang/invoke/VarHandle" ∧ (parseMethodDescriptor yX1_pressureOfPart.desc).map (fun d => d.parameters.length) = some 2 := by decide +kernel
abbrev rX1_pressureOf : Room := { frames := 1, cells := 0, slots := 0, locals := 21 }
theorem hdSX1_pressureOf : yX1_pressureOf.cls ≠ "java/lang/invoke/MethodHandle" ∧ yX1_pressureOf.cls ≠ "java/lang/invoke/VarHandle" ∧ (parseMethodDescriptor yX1_pressureOf.desc).map (fun d => d.parameters.length) = some 2 := by decide +kernel
theorem hdVX1_pressureOf : yX1_pressureOf.cls = RX1 ∧ yX1_pressureOf.cls ≠ "java/lang/invoke/MethodHandle" ∧ yX1_pressureOf.cls ≠ "java/lang/invoke/VarHandle" ∧ (parseMethodDescriptor yX1_pressureOf.desc).map (fun d => d.parameters.length) = some 2 := by decide +kernel
abbrev rX1_pressureAtPipe : Room := { frames := 3, cells := 0, slots := 0, locals := 64 }
theorem hdSX1_pressureAtPipe : yX1_pressureAtPipe.cls ≠ "java/lang/invoke/MethodHandle" ∧ yX1_pressureAtPipe.cls ≠ "java/lang/invoke/VarHandle" ∧ (parseMethodDescriptor yX1_pressureAtPipe.desc).map (fun d => d.parameters.length) = some 0 := by decide +kernel
theorem hdVX1_pressureAtPipe : yX1_pressureAtPipe.cls = RX1 ∧ yX1_pressureAtPipe.cls ≠ "java/lang/invoke/MethodHandle" ∧ yX1_pressureAtPipe.cls ≠ "java/lang/invoke/VarHandle" ∧ (parseMethodDescriptor yX1_pressureAtPipe.desc).map (fun d => d.parameters.length) = some 0 := by decide +kernel
abbrev rX1_pressureAtCasing : Room := { frames := 3, cells := 0, slots := 0, locals := 64 }
theorem hdSX1_pressureAtCasing : yX1_pressureAtCasing.cls ≠ "java/lang/invoke/MethodHandle" ∧ yX1_pressureAtCasing.cls ≠ "java/lang/invoke/VarHandle" ∧ (parseMethodDescriptor yX1_pressureAtCasing.desc).map (fun d => d.parameters.length) = some 0 := by decide +kernel
theorem hdVX1_pressureAtCasing : yX1_pressureAtCasing.cls = RX1 ∧ yX1_pressureAtCasing.cls ≠ "java/lang/invoke/MethodHandle" ∧ yX1_pressureAtCasing.cls ≠ "java/lang/invoke/VarHandle" ∧ (parseMethodDescriptor yX1_pressureAtCasing.desc).map (fun d => d.parameters.length) = some 0 := by decide +kernel
abbrev rX1_pressureAtStandpipe : Room := { frames := 4, cells := 0, slots := 0, locals := 84 }
theorem hdSX1_pressureAtStandpipe : yX1_pressureAtStandpipe.cls ≠ "java/lang/invoke/MethodHandle" ∧ yX1_pressureAtStandpipe.cls ≠ "java/lang/invoke/VarHandle" ∧ (parseMethodDescriptor yX1_pressureAtStandpipe.desc).map (fun d => d.parameters.length) = some 0 := by decide +kernel
theorem hdVX1_pressureAtStandpipe : yX1_pressureAtStandpipe.cls = RX1 ∧ yX1_pressureAtStandpipe.cls ≠ "java/lang/invoke/MethodHandle" ∧ yX1_pressureAtStandpipe.cls ≠ "java/lang/invoke/VarHandle" ∧ (parseMethodDescriptor yX1_pressureAtStandpipe.desc).map (fun d => d.parameters.length) = some 0 := by decide +kernel
abbrev rX1_pressureAtShoe : Room := { frames := 4, cells := 0, slots := 0, locals := 94 }
theorem hdSX1_pressureAtShoe : yX1_pressureAtShoe.cls ≠ "java/lang/invoke/MethodHandle" ∧ yX1_pressureAtShoe.cls ≠ "java/lang/invoke/VarHandle" ∧ (parseMethodDescriptor yX1_pressureAtShoe.desc).map (fun d => d.parameters.length) = some 0 := by decide +kernel
theorem hdVX1_pressureAtShoe : yX1_pressureAtShoe.cls = RX1 ∧ yX1_pressureAtShoe.cls ≠ "java/lang/invoke/MethodHandle" ∧ yX1_pressureAtShoe.cls ≠ "java/lang/invoke/VarHandle" ∧ (parseMethodDescriptor yX1_pressureAtShoe.desc).map (fun d => d.parameters.length) = some 0 := by decide +kernel
abbrev rX1_densityToKill : Room := { frames := 1, cells := 0, slots := 0, locals := 23 }
theorem hdSX1_densityToKill : yX1_densityToKill.cls ≠ "java/lang/invoke/MethodHandle" ∧ yX1_densityToKill.cls ≠ "java/lang/invoke/VarHandle" ∧ (parseMethodDescriptor yX1_densityToKill.desc).map (fun d => d.parameters.length) = some 0 := by decide +kernel
theorem hdVX1_densityToKill : yX1_densityToKill.cls = RX1 ∧ yX1_densityToKill.cls ≠ "java/lang/invoke/MethodHandle" ∧ yX1_densityToKill.cls ≠ "java/lang/invoke/VarHandle" ∧ (parseMethodDescriptor yX1_densityToKill.desc).map (fun d => d.parameters.length) = some 0 := by decide +kernel
abbrev rX1_mixedSettings : Room := { frames := 1, cells := 0, slots := 0, locals := 23 }
theorem hdSX1_mixedSettings : yX1_mixedSettings.cls ≠ "java/lang/invoke/MethodHandle" ∧ yX1_mixedSettings.cls ≠ "java/lang/invoke/VarHandle" ∧ (parseMethodDescriptor yX1_mixedSettings.desc).map (fun d => d.parameters.length) = some 1 := by decide +kernel
theorem hdVX1_mixedSettings : yX1_mixedSettings.cls = RX1 ∧ yX1_mixedSettings.cls ≠ "java/lang/invoke/MethodHandle" ∧ yX1_mixedSettings.cls ≠ "java/lang/invoke/VarHandle" ∧ (parseMethodDescriptor yX1_mixedSettings.desc).map (fun d => d.parameters.length) = some 1 := by decide +kernel
abbrev rX1_mixedReadings : Room := { frames := 5, cells := 0, slots := 0, locals := 114 }
theorem hdSX1_mixedReadings : yX1_mixedReadings.cls ≠ "java/lang/invoke/MethodHandle" ∧ yX1_mixedReadings.cls ≠ "java/lang/invoke/VarHandle" ∧ (parseMethodDescriptor yX1_mixedReadings.desc).map (fun d => d.parameters.length) = some 1 := by decide +kernel
theorem hdVX1_mixedReadings : yX1_mixedReadings.cls = RX1 ∧ yX1_mixedReadings.cls ≠ "java/lang/invoke/MethodHandle" ∧ yX1_mixedReadings.cls ≠ "java/lang/invoke/VarHandle" ∧ (parseMethodDescriptor yX1_mixedReadings.desc).map (fun d => d.parameters.length) = some 1 := by decide +kernel
abbrev rX2_init : Room := { frames := 6, cells := 44, slots := 12638, locals := 127 }
theorem hdSX2_init : yX2_init.cls ≠ "java/lang/invoke/MethodHandle" ∧ yX2_init.cls ≠ "java/lang/invoke/VarHandle" ∧ (parseMethodDescriptor yX2_init.desc).map (fun d => d.parameters.length) = some 0 := by decide +kernel
theorem hdVX2_init : yX2_init.cls = RX2 ∧ yX2_init.cls ≠ "java/lang/invoke/MethodHandle" ∧ yX2_init.cls ≠ "java/lang/invoke/VarHandle" ∧ (parseMethodDescriptor yX2_init.desc).map (fun d => d.parameters.length) = some 0 := by decide +kernel
abbrev rX2_setGeometry : Room := { frames := 7, cells := 0, slots := 0, locals := 151 }
theorem hdSX2_setGeometry : yX2_setGeometry.cls ≠ "java/lang/invoke/MethodHandle" ∧ yX2_setGeometry.cls ≠ "java/lang/invoke/VarHandle" ∧ (parseMethodDescriptor yX2_setGeometry.desc).map (fun d => d.parameters.length) = some 4 := by decide +kernel
theorem hdVX2_setGeometry : yX2_setGeometry.cls = RX2 ∧ yX2_setGeometry.cls ≠ "java/lang/invoke/MethodHandle" ∧ yX2_setGeometry.cls ≠ "java/lang/invoke/VarHandle" ∧ (parseMethodDescriptor yX2_setGeometry.desc).map (fun d => d.parameters.length) = some 4 := by decide +kernel
abbrev rX2_setMud : Room := { frames := 7, cells := 0, slots := 0, locals := 151 }
theorem hdSX2_setMud : yX2_setMud.cls ≠ "java/lang/invoke/MethodHandle" ∧ yX2_setMud.cls ≠ "java/lang/invoke/VarHandle" ∧ (parseMethodDescriptor yX2_setMud.desc).map (fun d => d.parameters.length) = some 1 := by decide +kernel
theorem hdVX2_setMud : yX2_setMud.cls = RX2 ∧ yX2_setMud.cls ≠ "java/lang/invoke/MethodHandle" ∧ yX2_setMud.cls ≠ "java/lang/invoke/VarHandle" ∧ (parseMethodDescriptor yX2_setMud.desc).map (fun d => d.parameters.length) = some 1 := by decide +kernel
abbrev rX2_setFormation : Room := { frames := 7, cells := 0, slots := 0, locals := 151 }
theorem hdSX2_setFormation : yX2_setFormation.cls ≠ "java/lang/invoke/MethodHandle" ∧ yX2_setFormation.cls ≠ "java/lang/invoke/VarHandle" ∧ (parseMethodDescriptor yX2_setFormation.desc).map (fun d => d.parameters.length) = some 1 := by decide +kernel
theorem hdVX2_setFormation : yX2_setFormation.cls = RX2 ∧ yX2_setFormation.cls ≠ "java/lang/invoke/MethodHandle" ∧ yX2_setFormation.cls ≠ "java/lang/invoke/VarHandle" ∧ (parseMethodDescriptor yX2_setFormation.desc).map (fun d => d.parameters.length) = some 1 := by decide +kernel
abbrev rX2_setSlowPump : Room := { frames := 7, cells := 0, slots := 0, locals := 151 }
theorem hdSX2_setSlowPump : yX2_setSlowPump.cls ≠ "java/lang/invoke/MethodHandle" ∧ yX2_setSlowPump.cls ≠ "java/lang/invoke/VarHandle" ∧ (parseMethodDescriptor yX2_setSlowPump.desc).map (fun d => d.parameters.length) = some 1 := by decide +kernel
theorem hdVX2_setSlowPump : yX2_setSlowPump.cls = RX2 ∧ yX2_setSlowPump.cls ≠ "java/lang/invoke/MethodHandle" ∧ yX2_setSlowPump.cls ≠ "java/lang/invoke/VarHandle" ∧ (parseMethodDescriptor yX2_setSlowPump.desc).map (fun d => d.parameters.length) = some 1 := by decide +kernel
abbrev rX2_setFracture : Room := { frames := 7, cells := 0, slots := 0, locals := 151 }
theorem hdSX2_setFracture : yX2_setFracture.cls ≠ "java/lang/invoke/MethodHandle" ∧ yX2_setFracture.cls ≠ "java/lang/invoke/VarHandle" ∧ (parseMethodDescriptor yX2_setFracture.desc).map (fun d => d.parameters.length) = some 1 := by decide +kernel
theorem hdVX2_setFracture : yX2_setFracture.cls = RX2 ∧ yX2_setFracture.cls ≠ "java/lang/invoke/MethodHandle" ∧ yX2_setFracture.cls ≠ "java/lang/invoke/VarHandle" ∧ (parseMethodDescriptor yX2_setFracture.desc).map (fun d => d.parameters.length) = some 1 := by decide +kernel
abbrev rX2_pump : Room := { frames := 7, cells := 0, slots := 0, locals := 151 }
theorem hdSX2_pump : yX2_pump.cls ≠ "java/lang/invoke/MethodHandle" ∧ yX2_pump.cls ≠ "java/lang/invoke/VarHandle" ∧ (parseMethodDescriptor yX2_pump.desc).map (fun d => d.parameters.length) = some 1 := by decide +kernel
theorem hdVX2_pump : yX2_pump.cls = RX2 ∧ yX2_pump.cls ≠ "java/lang/invoke/MethodHandle" ∧ yX2_pump.cls ≠ "java/lang/invoke/VarHandle" ∧ (parseMethodDescriptor yX2_pump.desc).map (fun d => d.parameters.length) = some 1 := by decide +kernel
abbrev rX2_influx : Room := { frames := 7, cells := 0, slots := 0, locals := 151 }
theorem hdSX2_influx : yX2_influx.cls ≠ "java/lang/invoke/MethodHandle" ∧ yX2_influx.cls ≠ "java/lang/invoke/VarHandle" ∧ (parseMethodDescriptor yX2_influx.desc).map (fun d => d.parameters.length) = some 2 := by decide +kernel
theorem hdVX2_influx : yX2_influx.cls = RX2 ∧ yX2_influx.cls ≠ "java/lang/invoke/MethodHandle" ∧ yX2_influx.cls ≠ "java/lang/invoke/VarHandle" ∧ (parseMethodDescriptor yX2_influx.desc).map (fun d => d.parameters.length) = some 2 := by decide +kernel
abbrev rX2_hydrostatic : Room := { frames := 3, cells := 0, slots := 0, locals := 64 }
theorem hdSX2_hydrostatic : yX2_hydrostatic.cls ≠ "java/lang/invoke/MethodHandle" ∧ yX2_hydrostatic.cls ≠ "java/lang/invoke/VarHandle" ∧ (parseMethodDescriptor yX2_hydrostatic.desc).map (fun d => d.parameters.length) = some 1 := by decide +kernel
theorem hdVX2_hydrostatic : yX2_hydrostatic.cls = RX2 ∧ yX2_hydrostatic.cls ≠ "java/lang/invoke/MethodHandle" ∧ yX2_hydrostatic.cls ≠ "java/lang/invoke/VarHandle" ∧ (parseMethodDescriptor yX2_hydrostatic.desc).map (fun d => d.parameters.length) = some 1 := by decide +kernel
abbrev rX2_hydrostaticAbove : Room := { frames := 4, cells := 0, slots := 0, locals := 94 }
theorem hdSX2_hydrostaticAbove : yX2_hydrostaticAbove.cls ≠ "java/lang/invoke/MethodHandle" ∧ yX2_hydrostaticAbove.cls ≠ "java/lang/invoke/VarHandle" ∧ (parseMethodDescriptor yX2_hydrostaticAbove.desc).map (fun d => d.parameters.length) = some 2 := by decide +kernel
theorem hdVX2_hydrostaticAbove : yX2_hydrostaticAbove.cls = RX2 ∧ yX2_hydrostaticAbove.cls ≠ "java/lang/invoke/MethodHandle" ∧ yX2_hydrostaticAbove.cls ≠ "java/lang/invoke/VarHandle" ∧ (parseMethodDescriptor yX2_hydrostaticAbove.desc).map (fun d => d.parameters.length) = some 2 := by decide +kernel
abbrev rX2_drillPipePressure : Room := { frames := 4, cells := 0, slots := 0, locals := 84 }
theorem hdSX2_drillPipePressure : yX2_drillPipePressure.cls ≠ "java/lang/invoke/MethodHandle" ∧ yX2_drillPipePressure.cls ≠ "java/lang/invoke/VarHandle" ∧ (parseMethodDescriptor yX2_drillPipePressure.desc).map (fun d => d.parameters.length) = some 0 := by decide +kernel
theorem hdVX2_drillPipePressure : yX2_drillPipePressure.cls = RX2 ∧ yX2_drillPipePressure.cls ≠ "java/lang/invoke/MethodHandle" ∧ yX2_drillPipePressure.cls ≠ "java/lang/invoke/VarHandle" ∧ (parseMethodDescriptor yX2_drillPipePressure.desc).map (fun d => d.parameters.length) = some 0 := by decide +kernel
abbrev rX2_casingPressure : Room := { frames := 4, cells := 0, slots := 0, locals := 84 }
theorem hdSX2_casingPressure : yX2_casingPressure.cls ≠ "java/lang/invoke/MethodHandle" ∧ yX2_casingPressure.cls ≠ "java/lang/invoke/VarHandle" ∧ (parseMethodDescriptor yX2_casingPressure.desc).map (fun d => d.parameters.length) = some 0 := by decide +kernel
theorem hdVX2_casingPressure : yX2_casingPressure.cls = RX2 ∧ yX2_casingPressure.cls ≠ "java/lang/invoke/MethodHandle" ∧ yX2_casingPressure.cls ≠ "java/lang/invoke/VarHandle" ∧ (parseMethodDescriptor yX2_casingPressure.desc).map (fun d => d.parameters.length) = some 0 := by decide +kernel
abbrev rX2_standpipePressure : Room := { frames := 5, cells := 0, slots := 0, locals := 104 }
theorem hdSX2_standpipePressure : yX2_standpipePressure.cls ≠ "java/lang/invoke/MethodHandle" ∧ yX2_standpipePressure.cls ≠ "java/lang/invoke/VarHandle" ∧ (parseMethodDescriptor yX2_standpipePressure.desc).map (fun d => d.parameters.length) = some 0 := by decide +kernel
theorem hdVX2_standpipePressure : yX2_standpipePressure.cls = RX2 ∧ yX2_standpipePressure.cls ≠ "java/lang/invoke/MethodHandle" ∧ yX2_standpipePressure.cls ≠ "java/lang/invoke/VarHandle" ∧ (parseMethodDescriptor yX2_standpipePressure.desc).map (fun d => d.parameters.length) = some 0 := by decide +kernel
abbrev rX2_shoePressure : Room := { frames := 5, cells := 0, slots := 0, locals := 114 }
theorem hdSX2_shoePressure : yX2_shoePressure.cls ≠ "java/lang/invoke/MethodHandle" ∧ yX2_shoePressure.cls ≠ "java/lang/invoke/VarHandle" ∧ (parseMethodDescriptor yX2_shoePressure.desc).map (fun d => d.parameters.length) = some 0 := by decide +kernel
theorem hdVX2_shoePressure : yX2_shoePressure.cls = RX2 ∧ yX2_shoePressure.cls ≠ "java/lang/invoke/MethodHandle" ∧ yX2_shoePressure.cls ≠ "java/lang/invoke/VarHandle" ∧ (parseMethodDescriptor yX2_shoePressure.desc).map (fun d => d.parameters.length) = some 0 := by decide +kernel
abbrev rX2_allowedCasingPressure : Room := { frames := 4, cells := 0, slots := 0, locals := 94 }
theorem hdSX2_allowedCasingPressure : yX2_allowedCasingPressure.cls ≠ "java/lang/invoke/MethodHandle" ∧ yX2_allowedCasingPressure.cls ≠ "java/lang/invoke/VarHandle" ∧ (parseMethodDescriptor yX2_allowedCasingPressure.desc).map (fun d => d.parameters.length) = some 0 := by decide +kernel
theorem hdVX2_allowedCasingPressure : yX2_allowedCasingPressure.cls = RX2 ∧ yX2_allowedCasingPressure.cls ≠ "java/lang/invoke/MethodHandle" ∧ yX2_allowedCasingPressure.cls ≠ "java/lang/invoke/VarHandle" ∧ (parseMethodDescriptor yX2_allowedCasingPressure.desc).map (fun d => d.parameters.length) = some 0 := by decide +kernel
abbrev rX2_killDensity : Room := { frames := 2, cells := 0, slots := 0, locals := 47 }
theorem hdSX2_killDensity : yX2_killDensity.cls ≠ "java/lang/invoke/MethodHandle" ∧ yX2_killDensity.cls ≠ "java/lang/invoke/VarHandle" ∧ (parseMethodDescriptor yX2_killDensity.desc).map (fun d => d.parameters.length) = some 0 := by decide +kernel
theorem hdVX2_killDensity : yX2_killDensity.cls = RX2 ∧ yX2_killDensity.cls ≠ "java/lang/invoke/MethodHandle" ∧ yX2_killDensity.cls ≠ "java/lang/invoke/VarHandle" ∧ (parseMethodDescriptor yX2_killDensity.desc).map (fun d => d.parameters.length) = some 0 := by decide +kernel
abbrev rX2_killShoePressure : Room := { frames := 7, cells := 0, slots := 0, locals := 160 }
theorem hdSX2_killShoePressure : yX2_killShoePressure.cls ≠ "java/lang/invoke/MethodHandle" ∧ yX2_killShoePressure.cls ≠ "java/lang/invoke/VarHandle" ∧ (parseMethodDescriptor yX2_killShoePressure.desc).map (fun d => d.parameters.length) = some 2 := by decide +kernel
theorem hdVX2_killShoePressure : yX2_killShoePressure.cls = RX2 ∧ yX2_killShoePressure.cls ≠ "java/lang/invoke/MethodHandle" ∧ yX2_killShoePressure.cls ≠ "java/lang/invoke/VarHandle" ∧ (parseMethodDescriptor yX2_killShoePressure.desc).map (fun d => d.parameters.length) = some 2 := by decide +kernel
abbrev rX2_schedule : Room := { frames := 5, cells := 0, slots := 0, locals := 104 }
theorem hdSX2_schedule : yX2_schedule.cls ≠ "java/lang/invoke/MethodHandle" ∧ yX2_schedule.cls ≠ "java/lang/invoke/VarHandle" ∧ (parseMethodDescriptor yX2_schedule.desc).map (fun d => d.parameters.length) = some 1 := by decide +kernel
theorem hdVX2_schedule : yX2_schedule.cls = RX2 ∧ yX2_schedule.cls ≠ "java/lang/invoke/MethodHandle" ∧ yX2_schedule.cls ≠ "java/lang/invoke/VarHandle" ∧ (parseMethodDescriptor yX2_schedule.desc).map (fun d => d.parameters.length) = some 1 := by decide +kernel
abbrev rX2_strokesToBit : Room := { frames := 2, cells := 0, slots := 0, locals := 43 }
theorem hdSX2_strokesToBit : yX2_strokesToBit.cls ≠ "java/lang/invoke/MethodHandle" ∧ yX2_strokesToBit.cls ≠ "java/lang/invoke/VarHandle" ∧ (parseMethodDescriptor yX2_strokesToBit.desc).map (fun d => d.parameters.length) = some 1 := by decide +kernel
theorem hdVX2_strokesToBit : yX2_strokesToBit.cls = RX2 ∧ yX2_strokesToBit.cls ≠ "java/lang/invoke/MethodHandle" ∧ yX2_strokesToBit.cls ≠ "java/lang/invoke/VarHandle" ∧ (parseMethodDescriptor yX2_strokesToBit.desc).map (fun d => d.parameters.length) = some 1 := by decide +kernel
abbrev rX2_layers : Room := { frames := 2, cells := 0, slots := 0, locals := 43 }
theorem hdSX2_layers : yX2_layers.cls ≠ "java/lang/invoke/MethodHandle" ∧ yX2_layers.cls ≠ "java/lang/invoke/VarHandle" ∧ (parseMethodDescriptor yX2_layers.desc).map (fun d => d.parameters.length) = some 1 := by decide +kernel
theorem hdVX2_layers : yX2_layers.cls = RX2 ∧ yX2_layers.cls ≠ "java/lang/invoke/MethodHandle" ∧ yX2_layers.cls ≠ "java/lang/invoke/VarHandle" ∧ (parseMethodDescriptor yX2_layers.desc).map (fun d => d.parameters.length) = some 1 := by decide +kernel
abbrev rX2_layerVolume : Room := { frames := 3, cells := 0, slots := 0, locals := 65 }
theorem hdSX2_layerVolume : yX2_layerVolume.cls ≠ "java/lang/invoke/MethodHandle" ∧ yX2_layerVolume.cls ≠ "java/lang/invoke/VarHandle" ∧ (parseMethodDescriptor yX2_layerVolume.desc).map (fun d => d.parameters.length) = some 2 := by decide +kernel
theorem hdVX2_layerVolume : yX2_layerVolume.cls = RX2 ∧ yX2_layerVolume.cls ≠ "java/lang/invoke/MethodHandle" ∧ yX2_layerVolume.cls ≠ "java/lang/invoke/VarHandle" ∧ (parseMethodDescriptor yX2_layerVolume.desc).map (fun d => d.parameters.length) = some 2 := by decide +kernel
abbrev rX2_layerDensity : Room := { frames := 3, cells := 0, slots := 0, locals := 65 }
theorem hdSX2_layerDensity : yX2_layerDensity.cls ≠ "java/lang/invoke/MethodHandle" ∧ yX2_layerDensity.cls ≠ "java/lang/invoke/VarHandle" ∧ (parseMethodDescriptor yX2_layerDensity.desc).map (fun d => d.parameters.length) = some 2 := by decide +kernel
theorem hdVX2_layerDensity : yX2_layerDensity.cls = RX2 ∧ yX2_layerDensity.cls ≠ "java/lang/invoke/MethodHandle" ∧ yX2_layerDensity.cls ≠ "java/lang/invoke/VarHandle" ∧ (parseMethodDescriptor yX2_layerDensity.desc).map (fun d => d.parameters.length) = some 2 := by decide +kernel
abbrev rX2_gain : Room := { frames := 0, cells := 0, slots := 0, locals := 0 }
theorem hdSX2_gain : yX2_gain.cls ≠ "java/lang/invoke/MethodHandle" ∧ yX2_gain.cls ≠ "java/lang/invoke/VarHandle" ∧ (parseMethodDescriptor yX2_gain.desc).map (fun d => d.parameters.length) = some 0 := by decide +kernel
theorem hdVX2_gain : yX2_gain.cls = RX2 ∧ yX2_gain.cls ≠ "java/lang/invoke/MethodHandle" ∧ yX2_gain.cls ≠ "java/lang/invoke/VarHandle" ∧ (parseMethodDescriptor yX2_gain.desc).map (fun d => d.parameters.length) = some 0 := by decide +kernel
abbrev rX2_breaks : Room := { frames := 0, cells := 0, slots := 0, locals := 0 }
theorem hdSX2_breaks : yX2_breaks.cls ≠ "java/lang/invoke/MethodHandle" ∧ yX2_breaks.cls ≠ "java/lang/invoke/VarHandle" ∧ (parseMethodDescriptor yX2_breaks.desc).map (fun d => d.parameters.length) = some 0 := by decide +kernel
theorem hdVX2_breaks : yX2_breaks.cls = RX2 ∧ yX2_breaks.cls ≠ "java/lang/invoke/MethodHandle" ∧ yX2_breaks.cls ≠ "java/lang/invoke/VarHandle" ∧ (parseMethodDescriptor yX2_breaks.desc).map (fun d => d.parameters.length) = some 0 := by decide +kernel
abbrev rX2_greatestShoePressure : Room := { frames := 0, cells := 0, slots := 0, locals := 0 }
theorem hdSX2_greatestShoePressure : yX2_greatestShoePressure.cls ≠ "java/lang/invoke/MethodHandle" ∧ yX2_greatestShoePressure.cls ≠ "java/lang/invoke/VarHandle" ∧ (parseMethodDescriptor yX2_greatestShoePressure.desc).map (fun d => d.parameters.length) = some 0 := by decide +kernel
theorem hdVX2_greatestShoePressure : yX2_greatestShoePressure.cls = RX2 ∧ yX2_greatestShoePressure.cls ≠ "java/lang/invoke/MethodHandle" ∧ yX2_greatestShoePressure.cls ≠ "java/lang/invoke/VarHandle" ∧ (parseMethodDescriptor yX2_greatestShoePressure.desc).map (fun d => d.parameters.length) = some 0 := by decide +kernel
abbrev rX2_undo : Room := { frames := 2, cells := 0, slots := 0, locals := 43 }
theorem hdSX2_undo : yX2_undo.cls ≠ "java/lang/invoke/MethodHandle" ∧ yX2_undo.cls ≠ "java/lang/invoke/VarHandle" ∧ (parseMethodDescriptor yX2_undo.desc).map (fun d => d.parameters.length) = some 0 := by decide +kernel
theorem hdVX2_undo : yX2_undo.cls = RX2 ∧ yX2_undo.cls ≠ "java/lang/invoke/MethodHandle" ∧ yX2_undo.cls ≠ "java/lang/invoke/VarHandle" ∧ (parseMethodDescriptor yX2_undo.desc).map (fun d => d.parameters.length) = some 0 := by decide +kernel
abbrev rX2_errorCount : Room := { frames := 2, cells := 0, slots := 0, locals := 43 }
theorem hdSX2_errorCount : yX2_errorCount.cls ≠ "java/lang/invoke/MethodHandle" ∧ yX2_errorCount.cls ≠ "java/lang/invoke/VarHandle" ∧ (parseMethodDescriptor yX2_errorCount.desc).map (fun d => d.parameters.length) = some 1 := by decide +kernel
theorem hdVX2_errorCount : yX2_errorCount.cls = RX2 ∧ yX2_errorCount.cls ≠ "java/lang/invoke/MethodHandle" ∧ yX2_errorCount.cls ≠ "java/lang/invoke/VarHandle" ∧ (parseMethodDescriptor yX2_errorCount.desc).map (fun d => d.parameters.length) = some 1 := by decide +kernel
abbrev rX2_digest : Room := { frames := 6, cells := 0, slots := 0, locals := 136 }
theorem hdSX2_digest : yX2_digest.cls ≠ "java/lang/invoke/MethodHandle" ∧ yX2_digest.cls ≠ "java/lang/invoke/VarHandle" ∧ (parseMethodDescriptor yX2_digest.desc).map (fun d => d.parameters.length) = some 0 := by decide +kernel
theorem hdVX2_digest : yX2_digest.cls = RX2 ∧ yX2_digest.cls ≠ "java/lang/invoke/MethodHandle" ∧ yX2_digest.cls ≠ "java/lang/invoke/VarHandle" ∧ (parseMethodDescriptor yX2_digest.desc).map (fun d => d.parameters.length) = some 0 := by decide +kernel
abbrev rX2_within : Room := { frames := 0, cells := 0, slots := 0, locals := 0 }
theorem hdSX2_within : yX2_within.cls ≠ "java/lang/invoke/MethodHandle" ∧ yX2_within.cls ≠ "java/lang/invoke/VarHandle" ∧ (parseMethodDescriptor yX2_within.desc).map (fun d => d.parameters.length) = some 3 := by decide +kernel
theorem hdVX2_within : yX2_within.cls = RX2 ∧ yX2_within.cls ≠ "java/lang/invoke/MethodHandle" ∧ yX2_within.cls ≠ "java/lang/invoke/VarHandle" ∧ (parseMethodDescriptor yX2_within.desc).map (fun d => d.parameters.length) = some 3 := by decide +kernel
abbrev rX2_mixed : Room := { frames := 0, cells := 0, slots := 0, locals := 0 }
theorem hdSX2_mixed : yX2_mixed.cls ≠ "java/lang/invoke/MethodHandle" ∧ yX2_mixed.cls ≠ "java/lang/invoke/VarHandle" ∧ (parseMethodDescriptor yX2_mixed.desc).map (fun d => d.parameters.length) = some 2 := by decide +kernel
theorem hdVX2_mixed : yX2_mixed.cls = RX2 ∧ yX2_mixed.cls ≠ "java/lang/invoke/MethodHandle" ∧ yX2_mixed.cls ≠ "java/lang/invoke/VarHandle" ∧ (parseMethodDescriptor yX2_mixed.desc).map (fun d => d.parameters.length) = some 2 := by decide +kernel
abbrev rX2_portionsFor : Room := { frames := 1, cells := 0, slots := 0, locals := 21 }
theorem hdSX2_portionsFor : yX2_portionsFor.cls ≠ "java/lang/invoke/MethodHandle" ∧ yX2_portionsFor.cls ≠ "java/lang/invoke/VarHandle" ∧ (parseMethodDescriptor yX2_portionsFor.desc).map (fun d => d.parameters.length) = some 2 := by decide +kernel
theorem hdVX2_portionsFor : yX2_portionsFor.cls = RX2 ∧ yX2_portionsFor.cls ≠ "java/lang/invoke/MethodHandle" ∧ yX2_portionsFor.cls ≠ "java/lang/invoke/VarHandle" ∧ (parseMethodDescriptor yX2_portionsFor.desc).map (fun d => d.parameters.length) = some 2 := by decide +kernel
abbrev rX2_layerError : Room := { frames := 1, cells := 0, slots := 0, locals := 22 }
theorem hdSX2_layerError : yX2_layerError.cls ≠ "java/lang/invoke/MethodHandle" ∧ yX2_layerError.cls ≠ "java/lang/invoke/VarHandle" ∧ (parseMethodDescriptor yX2_layerError.desc).map (fun d => d.parameters.length) = some 2 := by decide +kernel
theorem hdVX2_layerError : yX2_layerError.cls = RX2 ∧ yX2_layerError.cls ≠ "java/lang/invoke/MethodHandle" ∧ yX2_layerError.cls ≠ "java/lang/invoke/VarHandle" ∧ (parseMethodDescriptor yX2_layerError.desc).map (fun d => d.parameters.length) = some 2 := by decide +kernel
abbrev rX2_refuse : Room := { frames := 1, cells := 0, slots := 0, locals := 22 }
theorem hdSX2_refuse : yX2_refuse.cls ≠ "java/lang/invoke/MethodHandle" ∧ yX2_refuse.cls ≠ "java/lang/invoke/VarHandle" ∧ (parseMethodDescriptor yX2_refuse.desc).map (fun d => d.parameters.length) = some 1 := by decide +kernel
theorem hdVX2_refuse : yX2_refuse.cls = RX2 ∧ yX2_refuse.cls ≠ "java/lang/invoke/MethodHandle" ∧ yX2_refuse.cls ≠ "java/lang/invoke/VarHandle" ∧ (parseMethodDescriptor yX2_refuse.desc).map (fun d => d.parameters.length) = some 1 := by decide +kernel
abbrev rX2_save : Room := { frames := 6, cells := 0, slots := 0, locals := 131 }
theorem hdSX2_save : yX2_save.cls ≠ "java/lang/invoke/MethodHandle" ∧ yX2_save.cls ≠ "java/lang/invoke/VarHandle" ∧ (parseMethodDescriptor yX2_save.desc).map (fun d => d.parameters.length) = some 0 := by decide +kernel
theorem hdVX2_save : yX2_save.cls = RX2 ∧ yX2_save.cls ≠ "java/lang/invoke/MethodHandle" ∧ yX2_save.cls ≠ "java/lang/invoke/VarHandle" ∧ (parseMethodDescriptor yX2_save.desc).map (fun d => d.parameters.length) = some 0 := by decide +kernel
abbrev rX2_dropOldestSaved : Room := { frames := 0, cells := 0, slots := 0, locals := 0 }
theorem hdSX2_dropOldestSaved : yX2_dropOldestSaved.cls ≠ "java/lang/invoke/MethodHandle" ∧ yX2_dropOldestSaved.cls ≠ "java/lang/invoke/VarHandle" ∧ (parseMethodDescriptor yX2_dropOldestSaved.desc).map (fun d => d.parameters.length) = some 0 := by decide +kernel
theorem hdVX2_dropOldestSaved : yX2_dropOldestSaved.cls = RX2 ∧ yX2_dropOldestSaved.cls ≠ "java/lang/invoke/MethodHandle" ∧ yX2_dropOldestSaved.cls ≠ "java/lang/invoke/VarHandle" ∧ (parseMethodDescriptor yX2_dropOldestSaved.desc).map (fun d => d.parameters.length) = some 0 := by decide +kernel
abbrev rX3_init : Room := { frames := 3, cells := 4, slots := 26500, locals := 63 }
theorem hdSX3_init : yX3_init.cls ≠ "java/lang/invoke/MethodHandle" ∧ yX3_init.cls ≠ "java/lang/invoke/VarHandle" ∧ (parseMethodDescriptor yX3_init.desc).map (fun d => d.parameters.length) = some 0 := by decide +kernel
theorem hdVX3_init : yX3_init.cls = RX3 ∧ yX3_init.cls ≠ "java/lang/invoke/MethodHandle" ∧ yX3_init.cls ≠ "java/lang/invoke/VarHandle" ∧ (parseMethodDescriptor yX3_init.desc).map (fun d => d.parameters.length) = some 0 := by decide +kernel
abbrev rX3_in : Room := { frames := 0, cells := 0, slots := 0, locals := 0 }
theorem hdSX3_in : yX3_in.cls ≠ "java/lang/invoke/MethodHandle" ∧ yX3_in.cls ≠ "java/lang/invoke/VarHandle" ∧ (parseMethodDescriptor yX3_in.desc).map (fun d => d.parameters.length) = some 3 := by decide +kernel
theorem hdVX3_in : yX3_in.cls = RX3 ∧ yX3_in.cls ≠ "java/lang/invoke/MethodHandle" ∧ yX3_in.cls ≠ "java/lang/invoke/VarHandle" ∧ (parseMethodDescriptor yX3_in.desc).map (fun d => d.parameters.length) = some 3 := by decide +kernel
abbrev rX3_error : Room := { frames := 0, cells := 0, slots := 0, locals := 0 }
theorem hdSX3_error : yX3_error.cls ≠ "java/lang/invoke/MethodHandle" ∧ yX3_error.cls ≠ "java/lang/invoke/VarHandle" ∧ (parseMethodDescriptor yX3_error.desc).map (fun d => d.parameters.length) = some 1 := by decide +kernel
theorem hdVX3_error : yX3_error.cls = RX3 ∧ yX3_error.cls ≠ "java/lang/invoke/MethodHandle" ∧ yX3_error.cls ≠ "java/lang/invoke/VarHandle" ∧ (parseMethodDescriptor yX3_error.desc).map (fun d => d.parameters.length) = some 1 := by decide +kernel
abbrev rX3_copy : Room := { frames := 0, cells := 0, slots := 0, locals := 0 }
theorem hdSX3_copy : yX3_copy.cls ≠ "java/lang/invoke/MethodHandle" ∧ yX3_copy.cls ≠ "java/lang/invoke/VarHandle" ∧ (parseMethodDescriptor yX3_copy.desc).map (fun d => d.parameters.length) = some 4 := by decide +kernel
theorem hdVX3_copy : yX3_copy.cls = RX3 ∧ yX3_copy.cls ≠ "java/lang/invoke/MethodHandle" ∧ yX3_copy.cls ≠ "java/lang/invoke/VarHandle" ∧ (parseMethodDescriptor yX3_copy.desc).map (fun d => d.parameters.length) = some 4 := by decide +kernel
abbrev rX3_save : Room := { frames := 1, cells := 0, slots := 0, locals := 26 }
theorem hdSX3_save : yX3_save.cls ≠ "java/lang/invoke/MethodHandle" ∧ yX3_save.cls ≠ "java/lang/invoke/VarHandle" ∧ (parseMethodDescriptor yX3_save.desc).map (fun d => d.parameters.length) = some 0 := by decide +kernel
theorem hdVX3_save : yX3_save.cls = RX3 ∧ yX3_save.cls ≠ "java/lang/invoke/MethodHandle" ∧ yX3_save.cls ≠ "java/lang/invoke/VarHandle" ∧ (parseMethodDescriptor yX3_save.desc).map (fun d => d.parameters.length) = some 0 := by decide +kernel
abbrev rX3_volumeAt : Room := { frames := 0, cells := 0, slots := 0, locals := 0 }
theorem hdSX3_volumeAt : yX3_volumeAt.cls ≠ "java/lang/invoke/MethodHandle" ∧ yX3_volumeAt.cls ≠ "java/lang/invoke/VarHandle" ∧ (parseMethodDescriptor yX3_volumeAt.desc).map (fun d => d.parameters.length) = some 2 := by decide +kernel
theorem hdVX3_volumeAt : yX3_volumeAt.cls = RX3 ∧ yX3_volumeAt.cls ≠ "java/lang/invoke/MethodHandle" ∧ yX3_volumeAt.cls ≠ "java/lang/invoke/VarHandle" ∧ (parseMethodDescriptor yX3_volumeAt.desc).map (fun d => d.parameters.length) = some 2 := by decide +kernel
abbrev rX3_densityAt : Room := { frames := 1, cells := 0, slots := 0, locals := 21 }
theorem hdSX3_densityAt : yX3_densityAt.cls ≠ "java/lang/invoke/MethodHandle" ∧ yX3_densityAt.cls ≠ "java/lang/invoke/VarHandle" ∧ (parseMethodDescriptor yX3_densityAt.desc).map (fun d => d.parameters.length) = some 2 := by decide +kernel
theorem hdVX3_densityAt : yX3_densityAt.cls = RX3 ∧ yX3_densityAt.cls ≠ "java/lang/invoke/MethodHandle" ∧ yX3_densityAt.cls ≠ "java/lang/invoke/VarHandle" ∧ (parseMethodDescriptor yX3_densityAt.desc).map (fun d => d.parameters.length) = some 2 := by decide +kernel
abbrev rX3_volumeOf : Room := { frames := 0, cells := 0, slots := 0, locals := 0 }
theorem hdSX3_volumeOf : yX3_volumeOf.cls ≠ "java/lang/invoke/MethodHandle" ∧ yX3_volumeOf.cls ≠ "java/lang/invoke/VarHandle" ∧ (parseMethodDescriptor yX3_volumeOf.desc).map (fun d => d.parameters.length) = some 1 := by decide +kernel
theorem hdVX3_volumeOf : yX3_volumeOf.cls = RX3 ∧ yX3_volumeOf.cls ≠ "java/lang/invoke/MethodHandle" ∧ yX3_volumeOf.cls ≠ "java/lang/invoke/VarHandle" ∧ (parseMethodDescriptor yX3_volumeOf.desc).map (fun d => d.parameters.length) = some 1 := by decide +kernel
abbrev rX3_fill : Room := { frames := 2, cells := 0, slots := 0, locals := 42 }
theorem hdSX3_fill : yX3_fill.cls ≠ "java/lang/invoke/MethodHandle" ∧ yX3_fill.cls ≠ "java/lang/invoke/VarHandle" ∧ (parseMethodDescriptor yX3_fill.desc).map (fun d => d.parameters.length) = some 0 := by decide +kernel
theorem hdVX3_fill : yX3_fill.cls = RX3 ∧ yX3_fill.cls ≠ "java/lang/invoke/MethodHandle" ∧ yX3_fill.cls ≠ "java/lang/invoke/VarHandle" ∧ (parseMethodDescriptor yX3_fill.desc).map (fun d => d.parameters.length) = some 0 := by decide +kernel
abbrev rX3_putOnTop : Room := { frames := 2, cells := 0, slots := 0, locals := 42 }
theorem hdSX3_putOnTop : yX3_putOnTop.cls ≠ "java/lang/invoke/MethodHandle" ∧ yX3_putOnTop.cls ≠ "java/lang/invoke/VarHandle" ∧ (parseMethodDescriptor yX3_putOnTop.desc).map (fun d => d.parameters.length) = some 2 := by decide +kernel
theorem hdVX3_putOnTop : yX3_putOnTop.cls = RX3 ∧ yX3_putOnTop.cls ≠ "java/lang/invoke/MethodHandle" ∧ yX3_putOnTop.cls ≠ "java/lang/invoke/VarHandle" ∧ (parseMethodDescriptor yX3_putOnTop.desc).map (fun d => d.parameters.length) = some 2 := by decide +kernel
abbrev rX3_enter : Room := { frames := 2, cells := 0, slots := 0, locals := 42 }
theorem hdSX3_enter : yX3_enter.cls ≠ "java/lang/invoke/MethodHandle" ∧ yX3_enter.cls ≠ "java/lang/invoke/VarHandle" ∧ (parseMethodDescriptor yX3_enter.desc).map (fun d => d.parameters.length) = some 2 := by decide +kernel
theorem hdVX3_enter : yX3_enter.cls = RX3 ∧ yX3_enter.cls ≠ "java/lang/invoke/MethodHandle" ∧ yX3_enter.cls ≠ "java/lang/invoke/VarHandle" ∧ (parseMethodDescriptor yX3_enter.desc).map (fun d => d.parameters.length) = some 2 := by decide +kernel
abbrev rX3_passOver : Room := { frames := 3, cells := 0, slots := 0, locals := 65 }
theorem hdSX3_passOver : yX3_passOver.cls ≠ "java/lang/invoke/MethodHandle" ∧ yX3_passOver.cls ≠ "java/lang/invoke/VarHandle" ∧ (parseMethodDescriptor yX3_passOver.desc).map (fun d => d.parameters.length) = some 1 := by decide +kernel
theorem hdVX3_passOver : yX3_passOver.cls = RX3 ∧ yX3_passOver.cls ≠ "java/lang/invoke/MethodHandle" ∧ yX3_passOver.cls ≠ "java/lang/invoke/VarHandle" ∧ (parseMethodDescriptor yX3_passOver.desc).map (fun d => d.parameters.length) = some 1 := by decide +kernel
abbrev rX3_leave : Room := { frames := 2, cells := 0, slots := 0, locals := 42 }
theorem hdSX3_leave : yX3_leave.cls ≠ "java/lang/invoke/MethodHandle" ∧ yX3_leave.cls ≠ "java/lang/invoke/VarHandle" ∧ (parseMethodDescriptor yX3_leave.desc).map (fun d => d.parameters.length) = some 1 := by decide +kernel
theorem hdVX3_leave : yX3_leave.cls = RX3 ∧ yX3_leave.cls ≠ "java/lang/invoke/MethodHandle" ∧ yX3_leave.cls ≠ "java/lang/invoke/VarHandle" ∧ (parseMethodDescriptor yX3_leave.desc).map (fun d => d.parameters.length) = some 1 := by decide +kernel
abbrev rX3_pumpMud : Room := { frames := 4, cells := 0, slots := 0, locals := 89 }
theorem hdSX3_pumpMud : yX3_pumpMud.cls ≠ "java/lang/invoke/MethodHandle" ∧ yX3_pumpMud.cls ≠ "java/lang/invoke/VarHandle" ∧ (parseMethodDescriptor yX3_pumpMud.desc).map (fun d => d.parameters.length) = some 2 := by decide +kernel
theorem hdVX3_pumpMud : yX3_pumpMud.cls = RX3 ∧ yX3_pumpMud.cls ≠ "java/lang/invoke/MethodHandle" ∧ yX3_pumpMud.cls ≠ "java/lang/invoke/VarHandle" ∧ (parseMethodDescriptor yX3_pumpMud.desc).map (fun d => d.parameters.length) = some 2 := by decide +kernel
abbrev rX3_pressureOf : Room := { frames := 2, cells := 0, slots := 0, locals := 42 }
theorem hdSX3_pressureOf : yX3_pressureOf.cls ≠ "java/lang/invoke/MethodHandle" ∧ yX3_pressureOf.cls ≠ "java/lang/invoke/VarHandle" ∧ (parseMethodDescriptor yX3_pressureOf.desc).map (fun d => d.parameters.length) = some 2 := by decide +kernel
theorem hdVX3_pressureOf : yX3_pressureOf.cls = RX3 ∧ yX3_pressureOf.cls ≠ "java/lang/invoke/MethodHandle" ∧ yX3_pressureOf.cls ≠ "java/lang/invoke/VarHandle" ∧ (parseMethodDescriptor yX3_pressureOf.desc).map (fun d => d.parameters.length) = some 2 := by decide +kernel
abbrev rX3_lacking : Room := { frames := 3, cells := 0, slots := 0, locals := 69 }
theorem hdSX3_lacking : yX3_lacking.cls ≠ "java/lang/invoke/MethodHandle" ∧ yX3_lacking.cls ≠ "java/lang/invoke/VarHandle" ∧ (parseMethodDescriptor yX3_lacking.desc).map (fun d => d.parameters.length) = some 1 := by decide +kernel
theorem hdVX3_lacking : yX3_lacking.cls = RX3 ∧ yX3_lacking.cls ≠ "java/lang/invoke/MethodHandle" ∧ yX3_lacking.cls ≠ "java/lang/invoke/VarHandle" ∧ (parseMethodDescriptor yX3_lacking.desc).map (fun d => d.parameters.length) = some 1 := by decide +kernel
abbrev rX3_atShoe : Room := { frames := 4, cells := 0, slots := 0, locals := 91 }
theorem hdSX3_atShoe : yX3_atShoe.cls ≠ "java/lang/invoke/MethodHandle" ∧ yX3_atShoe.cls ≠ "java/lang/invoke/VarHandle" ∧ (parseMethodDescriptor yX3_atShoe.desc).map (fun d => d.parameters.length) = some 0 := by decide +kernel
theorem hdVX3_atShoe : yX3_atShoe.cls = RX3 ∧ yX3_atShoe.cls ≠ "java/lang/invoke/MethodHandle" ∧ yX3_atShoe.cls ≠ "java/lang/invoke/VarHandle" ∧ (parseMethodDescriptor yX3_atShoe.desc).map (fun d => d.parameters.length) = some 0 := by decide +kernel
abbrev rX3_check : Room := { frames := 5, cells := 0, slots := 0, locals := 111 }
theorem hdSX3_check : yX3_check.cls ≠ "java/lang/invoke/MethodHandle" ∧ yX3_check.cls ≠ "java/lang/invoke/VarHandle" ∧ (parseMethodDescriptor yX3_check.desc).map (fun d => d.parameters.length) = some 0 := by decide +kernel
theorem hdVX3_check : yX3_check.cls = RX3 ∧ yX3_check.cls ≠ "java/lang/invoke/MethodHandle" ∧ yX3_check.cls ≠ "java/lang/invoke/VarHandle" ∧ (parseMethodDescriptor yX3_check.desc).map (fun d => d.parameters.length) = some 0 := by decide +kernel
abbrev rX3_setGeometry : Room := { frames := 3, cells := 0, slots := 0, locals := 63 }
theorem hdSX3_setGeometry : yX3_setGeometry.cls ≠ "java/lang/invoke/MethodHandle" ∧ yX3_setGeometry.cls ≠ "java/lang/invoke/VarHandle" ∧ (parseMethodDescriptor yX3_setGeometry.desc).map (fun d => d.parameters.length) = some 4 := by decide +kernel
theorem hdVX3_setGeometry : yX3_setGeometry.cls = RX3 ∧ yX3_setGeometry.cls ≠ "java/lang/invoke/MethodHandle" ∧ yX3_setGeometry.cls ≠ "java/lang/invoke/VarHandle" ∧ (parseMethodDescriptor yX3_setGeometry.desc).map (fun d => d.parameters.length) = some 4 := by decide +kernel
abbrev rX3_set : Room := { frames := 2, cells := 0, slots := 0, locals := 47 }
theorem hdSX3_set : yX3_set.cls ≠ "java/lang/invoke/MethodHandle" ∧ yX3_set.cls ≠ "java/lang/invoke/VarHandle" ∧ (parseMethodDescriptor yX3_set.desc).map (fun d => d.parameters.length) = some 4 := by decide +kernel
theorem hdVX3_set : yX3_set.cls = RX3 ∧ yX3_set.cls ≠ "java/lang/invoke/MethodHandle" ∧ yX3_set.cls ≠ "java/lang/invoke/VarHandle" ∧ (parseMethodDescriptor yX3_set.desc).map (fun d => d.parameters.length) = some 4 := by decide +kernel
abbrev rX3_setMud : Room := { frames := 3, cells := 0, slots := 0, locals := 72 }
theorem hdSX3_setMud : yX3_setMud.cls ≠ "java/lang/invoke/MethodHandle" ∧ yX3_setMud.cls ≠ "java/lang/invoke/VarHandle" ∧ (parseMethodDescriptor yX3_setMud.desc).map (fun d => d.parameters.length) = some 1 := by decide +kernel
theorem hdVX3_setMud : yX3_setMud.cls = RX3 ∧ yX3_setMud.cls ≠ "java/lang/invoke/MethodHandle" ∧ yX3_setMud.cls ≠ "java/lang/invoke/VarHandle" ∧ (parseMethodDescriptor yX3_setMud.desc).map (fun d => d.parameters.length) = some 1 := by decide +kernel
abbrev rX3_setFormation : Room := { frames := 3, cells := 0, slots := 0, locals := 72 }
theorem hdSX3_setFormation : yX3_setFormation.cls ≠ "java/lang/invoke/MethodHandle" ∧ yX3_setFormation.cls ≠ "java/lang/invoke/VarHandle" ∧ (parseMethodDescriptor yX3_setFormation.desc).map (fun d => d.parameters.length) = some 1 := by decide +kernel
theorem hdVX3_setFormation : yX3_setFormation.cls = RX3 ∧ yX3_setFormation.cls ≠ "java/lang/invoke/MethodHandle" ∧ yX3_setFormation.cls ≠ "java/lang/invoke/VarHandle" ∧ (parseMethodDescriptor yX3_setFormation.desc).map (fun d => d.parameters.length) = some 1 := by decide +kernel
abbrev rX3_setSlowPump : Room := { frames := 3, cells := 0, slots := 0, locals := 72 }
theorem hdSX3_setSlowPump : yX3_setSlowPump.cls ≠ "java/lang/invoke/MethodHandle" ∧ yX3_setSlowPump.cls ≠ "java/lang/invoke/VarHandle" ∧ (parseMethodDescriptor yX3_setSlowPump.desc).map (fun d => d.parameters.length) = some 1 := by decide +kernel
theorem hdVX3_setSlowPump : yX3_setSlowPump.cls = RX3 ∧ yX3_setSlowPump.cls ≠ "java/lang/invoke/MethodHandle" ∧ yX3_setSlowPump.cls ≠ "java/lang/invoke/VarHandle" ∧ (parseMethodDescriptor yX3_setSlowPump.desc).map (fun d => d.parameters.length) = some 1 := by decide +kernel
abbrev rX3_setFracture : Room := { frames := 3, cells := 0, slots := 0, locals := 72 }
theorem hdSX3_setFracture : yX3_setFracture.cls ≠ "java/lang/invoke/MethodHandle" ∧ yX3_setFracture.cls ≠ "java/lang/invoke/VarHandle" ∧ (parseMethodDescriptor yX3_setFracture.desc).map (fun d => d.parameters.length) = some 1 := by decide +kernel
theorem hdVX3_setFracture : yX3_setFracture.cls = RX3 ∧ yX3_setFracture.cls ≠ "java/lang/invoke/MethodHandle" ∧ yX3_setFracture.cls ≠ "java/lang/invoke/VarHandle" ∧ (parseMethodDescriptor yX3_setFracture.desc).map (fun d => d.parameters.length) = some 1 := by decide +kernel
abbrev rX3_pump : Room := { frames := 6, cells := 0, slots := 0, locals := 132 }
theorem hdSX3_pump : yX3_pump.cls ≠ "java/lang/invoke/MethodHandle" ∧ yX3_pump.cls ≠ "java/lang/invoke/VarHandle" ∧ (parseMethodDescriptor yX3_pump.desc).map (fun d => d.parameters.length) = some 1 := by decide +kernel
theorem hdVX3_pump : yX3_pump.cls = RX3 ∧ yX3_pump.cls ≠ "java/lang/invoke/MethodHandle" ∧ yX3_pump.cls ≠ "java/lang/invoke/VarHandle" ∧ (parseMethodDescriptor yX3_pump.desc).map (fun d => d.parameters.length) = some 1 := by decide +kernel
abbrev rX3_influx : Room := { frames := 6, cells := 0, slots := 0, locals := 132 }
theorem hdSX3_influx : yX3_influx.cls ≠ "java/lang/invoke/MethodHandle" ∧ yX3_influx.cls ≠ "java/lang/invoke/VarHandle" ∧ (parseMethodDescriptor yX3_influx.desc).map (fun d => d.parameters.length) = some 2 := by decide +kernel
theorem hdVX3_influx : yX3_influx.cls = RX3 ∧ yX3_influx.cls ≠ "java/lang/invoke/MethodHandle" ∧ yX3_influx.cls ≠ "java/lang/invoke/VarHandle" ∧ (parseMethodDescriptor yX3_influx.desc).map (fun d => d.parameters.length) = some 2 := by decide +kernel
abbrev rX3_isColumn : Room := { frames := 1, cells := 0, slots := 0, locals := 22 }
theorem hdSX3_isColumn : yX3_isColumn.cls ≠ "java/lang/invoke/MethodHandle" ∧ yX3_isColumn.cls ≠ "java/lang/invoke/VarHandle" ∧ (parseMethodDescriptor yX3_isColumn.desc).map (fun d => d.parameters.length) = some 1 := by decide +kernel
theorem hdVX3_isColumn : yX3_isColumn.cls = RX3 ∧ yX3_isColumn.cls ≠ "java/lang/invoke/MethodHandle" ∧ yX3_isColumn.cls ≠ "java/lang/invoke/VarHandle" ∧ (parseMethodDescriptor yX3_isColumn.desc).map (fun d => d.parameters.length) = some 1 := by decide +kernel
abbrev rX3_hydrostatic : Room := { frames := 3, cells := 0, slots := 0, locals := 69 }
theorem hdSX3_hydrostatic : yX3_hydrostatic.cls ≠ "java/lang/invoke/MethodHandle" ∧ yX3_hydrostatic.cls ≠ "java/lang/invoke/VarHandle" ∧ (parseMethodDescriptor yX3_hydrostatic.desc).map (fun d => d.parameters.length) = some 1 := by decide +kernel
theorem hdVX3_hydrostatic : yX3_hydrostatic.cls = RX3 ∧ yX3_hydrostatic.cls ≠ "java/lang/invoke/MethodHandle" ∧ yX3_hydrostatic.cls ≠ "java/lang/invoke/VarHandle" ∧ (parseMethodDescriptor yX3_hydrostatic.desc).map (fun d => d.parameters.length) = some 1 := by decide +kernel
abbrev rX3_hydrostaticAbove : Room := { frames := 3, cells := 0, slots := 0, locals := 69 }
theorem hdSX3_hydrostaticAbove : yX3_hydrostaticAbove.cls ≠ "java/lang/invoke/MethodHandle" ∧ yX3_hydrostaticAbove.cls ≠ "java/lang/invoke/VarHandle" ∧ (parseMethodDescriptor yX3_hydrostaticAbove.desc).map (fun d => d.parameters.length) = some 2 := by decide +kernel
theorem hdVX3_hydrostaticAbove : yX3_hydrostaticAbove.cls = RX3 ∧ yX3_hydrostaticAbove.cls ≠ "java/lang/invoke/MethodHandle" ∧ yX3_hydrostaticAbove.cls ≠ "java/lang/invoke/VarHandle" ∧ (parseMethodDescriptor yX3_hydrostaticAbove.desc).map (fun d => d.parameters.length) = some 2 := by decide +kernel
abbrev rX3_drillPipePressure : Room := { frames := 4, cells := 0, slots := 0, locals := 91 }
theorem hdSX3_drillPipePressure : yX3_drillPipePressure.cls ≠ "java/lang/invoke/MethodHandle" ∧ yX3_drillPipePressure.cls ≠ "java/lang/invoke/VarHandle" ∧ (parseMethodDescriptor yX3_drillPipePressure.desc).map (fun d => d.parameters.length) = some 0 := by decide +kernel
theorem hdVX3_drillPipePressure : yX3_drillPipePressure.cls = RX3 ∧ yX3_drillPipePressure.cls ≠ "java/lang/invoke/MethodHandle" ∧ yX3_drillPipePressure.cls ≠ "java/lang/invoke/VarHandle" ∧ (parseMethodDescriptor yX3_drillPipePressure.desc).map (fun d => d.parameters.length) = some 0 := by decide +kernel
abbrev rX3_casingPressure : Room := { frames := 4, cells := 0, slots := 0, locals := 91 }
theorem hdSX3_casingPressure : yX3_casingPressure.cls ≠ "java/lang/invoke/MethodHandle" ∧ yX3_casingPressure.cls ≠ "java/lang/invoke/VarHandle" ∧ (parseMethodDescriptor yX3_casingPressure.desc).map (fun d => d.parameters.length) = some 0 := by decide +kernel
theorem hdVX3_casingPressure : yX3_casingPressure.cls = RX3 ∧ yX3_casingPressure.cls ≠ "java/lang/invoke/MethodHandle" ∧ yX3_casingPressure.cls ≠ "java/lang/invoke/VarHandle" ∧ (parseMethodDescriptor yX3_casingPressure.desc).map (fun d => d.parameters.length) = some 0 := by decide +kernel
abbrev rX3_standpipePressure : Room := { frames := 4, cells := 0, slots := 0, locals := 91 }
theorem hdSX3_standpipePressure : yX3_standpipePressure.cls ≠ "java/lang/invoke/MethodHandle" ∧ yX3_standpipePressure.cls ≠ "java/lang/invoke/VarHandle" ∧ (parseMethodDescriptor yX3_standpipePressure.desc).map (fun d => d.parameters.length) = some 0 := by decide +kernel
theorem hdVX3_standpipePressure : yX3_standpipePressure.cls = RX3 ∧ yX3_standpipePressure.cls ≠ "java/lang/invoke/MethodHandle" ∧ yX3_standpipePressure.cls ≠ "java/lang/invoke/VarHandle" ∧ (parseMethodDescriptor yX3_standpipePressure.desc).map (fun d => d.parameters.length) = some 0 := by decide +kernel
abbrev rX3_shoePressure : Room := { frames := 5, cells := 0, slots := 0, locals := 111 }
theorem hdSX3_shoePressure : yX3_shoePressure.cls ≠ "java/lang/invoke/MethodHandle" ∧ yX3_shoePressure.cls ≠ "java/lang/invoke/VarHandle" ∧ (parseMethodDescriptor yX3_shoePressure.desc).map (fun d => d.parameters.length) = some 0 := by decide +kernel
theorem hdVX3_shoePressure : yX3_shoePressure.cls = RX3 ∧ yX3_shoePressure.cls ≠ "java/lang/invoke/MethodHandle" ∧ yX3_shoePressure.cls ≠ "java/lang/invoke/VarHandle" ∧ (parseMethodDescriptor yX3_shoePressure.desc).map (fun d => d.parameters.length) = some 0 := by decide +kernel
abbrev rX3_allowedCasingPressure : Room := { frames := 3, cells := 0, slots := 0, locals := 69 }
theorem hdSX3_allowedCasingPressure : yX3_allowedCasingPressure.cls ≠ "java/lang/invoke/MethodHandle" ∧ yX3_allowedCasingPressure.cls ≠ "java/lang/invoke/VarHandle" ∧ (parseMethodDescriptor yX3_allowedCasingPressure.desc).map (fun d => d.parameters.length) = some 0 := by decide +kernel
theorem hdVX3_allowedCasingPressure : yX3_allowedCasingPressure.cls = RX3 ∧ yX3_allowedCasingPressure.cls ≠ "java/lang/invoke/MethodHandle" ∧ yX3_allowedCasingPressure.cls ≠ "java/lang/invoke/VarHandle" ∧ (parseMethodDescriptor yX3_allowedCasingPressure.desc).map (fun d => d.parameters.length) = some 0 := by decide +kernel
abbrev rX3_leastDensity : Room := { frames := 1, cells := 0, slots := 0, locals := 21 }
theorem hdSX3_leastDensity : yX3_leastDensity.cls ≠ "java/lang/invoke/MethodHandle" ∧ yX3_leastDensity.cls ≠ "java/lang/invoke/VarHandle" ∧ (parseMethodDescriptor yX3_leastDensity.desc).map (fun d => d.parameters.length) = some 0 := by decide +kernel
theorem hdVX3_leastDensity : yX3_leastDensity.cls = RX3 ∧ yX3_leastDensity.cls ≠ "java/lang/invoke/MethodHandle" ∧ yX3_leastDensity.cls ≠ "java/lang/invoke/VarHandle" ∧ (parseMethodDescriptor yX3_leastDensity.desc).map (fun d => d.parameters.length) = some 0 := by decide +kernel
abbrev rX3_killDensity : Room := { frames := 2, cells := 0, slots := 0, locals := 44 }
theorem hdSX3_killDensity : yX3_killDensity.cls ≠ "java/lang/invoke/MethodHandle" ∧ yX3_killDensity.cls ≠ "java/lang/invoke/VarHandle" ∧ (parseMethodDescriptor yX3_killDensity.desc).map (fun d => d.parameters.length) = some 0 := by decide +kernel
theorem hdVX3_killDensity : yX3_killDensity.cls = RX3 ∧ yX3_killDensity.cls ≠ "java/lang/invoke/MethodHandle" ∧ yX3_killDensity.cls ≠ "java/lang/invoke/VarHandle" ∧ (parseMethodDescriptor yX3_killDensity.desc).map (fun d => d.parameters.length) = some 0 := by decide +kernel
abbrev rX3_pumpAll : Room := { frames := 5, cells := 0, slots := 0, locals := 111 }
theorem hdSX3_pumpAll : yX3_pumpAll.cls ≠ "java/lang/invoke/MethodHandle" ∧ yX3_pumpAll.cls ≠ "java/lang/invoke/VarHandle" ∧ (parseMethodDescriptor yX3_pumpAll.desc).map (fun d => d.parameters.length) = some 4 := by decide +kernel
theorem hdVX3_pumpAll : yX3_pumpAll.cls = RX3 ∧ yX3_pumpAll.cls ≠ "java/lang/invoke/MethodHandle" ∧ yX3_pumpAll.cls ≠ "java/lang/invoke/VarHandle" ∧ (parseMethodDescriptor yX3_pumpAll.desc).map (fun d => d.parameters.length) = some 4 := by decide +kernel
abbrev rX3_killShoePressure : Room := { frames := 6, cells := 0, slots := 0, locals := 138 }
theorem hdSX3_killShoePressure : yX3_killShoePressure.cls ≠ "java/lang/invoke/MethodHandle" ∧ yX3_killShoePressure.cls ≠ "java/lang/invoke/VarHandle" ∧ (parseMethodDescriptor yX3_killShoePressure.desc).map (fun d => d.parameters.length) = some 2 := by decide +kernel
theorem hdVX3_killShoePressure : yX3_killShoePressure.cls = RX3 ∧ yX3_killShoePressure.cls ≠ "java/lang/invoke/MethodHandle" ∧ yX3_killShoePressure.cls ≠ "java/lang/invoke/VarHandle" ∧ (parseMethodDescriptor yX3_killShoePressure.desc).map (fun d => d.parameters.length) = some 2 := by decide +kernel
abbrev rX3_schedule : Room := { frames := 4, cells := 0, slots := 0, locals := 91 }
theorem hdSX3_schedule : yX3_schedule.cls ≠ "java/lang/invoke/MethodHandle" ∧ yX3_schedule.cls ≠ "java/lang/invoke/VarHandle" ∧ (parseMethodDescriptor yX3_schedule.desc).map (fun d => d.parameters.length) = some 1 := by decide +kernel
theorem hdVX3_schedule : yX3_schedule.cls = RX3 ∧ yX3_schedule.cls ≠ "java/lang/invoke/MethodHandle" ∧ yX3_schedule.cls ≠ "java/lang/invoke/VarHandle" ∧ (parseMethodDescriptor yX3_schedule.desc).map (fun d => d.parameters.length) = some 1 := by decide +kernel
abbrev rX3_strokesToBit : Room := { frames := 1, cells := 0, slots := 0, locals := 22 }
theorem hdSX3_strokesToBit : yX3_strokesToBit.cls ≠ "java/lang/invoke/MethodHandle" ∧ yX3_strokesToBit.cls ≠ "java/lang/invoke/VarHandle" ∧ (parseMethodDescriptor yX3_strokesToBit.desc).map (fun d => d.parameters.length) = some 1 := by decide +kernel
theorem hdVX3_strokesToBit : yX3_strokesToBit.cls = RX3 ∧ yX3_strokesToBit.cls ≠ "java/lang/invoke/MethodHandle" ∧ yX3_strokesToBit.cls ≠ "java/lang/invoke/VarHandle" ∧ (parseMethodDescriptor yX3_strokesToBit.desc).map (fun d => d.parameters.length) = some 1 := by decide +kernel
abbrev rX3_layers : Room := { frames := 2, cells := 0, slots := 0, locals := 42 }
theorem hdSX3_layers : yX3_layers.cls ≠ "java/lang/invoke/MethodHandle" ∧ yX3_layers.cls ≠ "java/lang/invoke/VarHandle" ∧ (parseMethodDescriptor yX3_layers.desc).map (fun d => d.parameters.length) = some 1 := by decide +kernel
theorem hdVX3_layers : yX3_layers.cls = RX3 ∧ yX3_layers.cls ≠ "java/lang/invoke/MethodHandle" ∧ yX3_layers.cls ≠ "java/lang/invoke/VarHandle" ∧ (parseMethodDescriptor yX3_layers.desc).map (fun d => d.parameters.length) = some 1 := by decide +kernel
abbrev rX3_ofLayer : Room := { frames := 2, cells := 0, slots := 0, locals := 42 }
theorem hdSX3_ofLayer : yX3_ofLayer.cls ≠ "java/lang/invoke/MethodHandle" ∧ yX3_ofLayer.cls ≠ "java/lang/invoke/VarHandle" ∧ (parseMethodDescriptor yX3_ofLayer.desc).map (fun d => d.parameters.length) = some 3 := by decide +kernel
theorem hdVX3_ofLayer : yX3_ofLayer.cls = RX3 ∧ yX3_ofLayer.cls ≠ "java/lang/invoke/MethodHandle" ∧ yX3_ofLayer.cls ≠ "java/lang/invoke/VarHandle" ∧ (parseMethodDescriptor yX3_ofLayer.desc).map (fun d => d.parameters.length) = some 3 := by decide +kernel
abbrev rX3_layerVolume : Room := { frames := 3, cells := 0, slots := 0, locals := 65 }
theorem hdSX3_layerVolume : yX3_layerVolume.cls ≠ "java/lang/invoke/MethodHandle" ∧ yX3_layerVolume.cls ≠ "java/lang/invoke/VarHandle" ∧ (parseMethodDescriptor yX3_layerVolume.desc).map (fun d => d.parameters.length) = some 2 := by decide +kernel
theorem hdVX3_layerVolume : yX3_layerVolume.cls = RX3 ∧ yX3_layerVolume.cls ≠ "java/lang/invoke/MethodHandle" ∧ yX3_layerVolume.cls ≠ "java/lang/invoke/VarHandle" ∧ (parseMethodDescriptor yX3_layerVolume.desc).map (fun d => d.parameters.length) = some 2 := by decide +kernel
abbrev rX3_layerDensity : Room := { frames := 3, cells := 0, slots := 0, locals := 65 }
theorem hdSX3_layerDensity : yX3_layerDensity.cls ≠ "java/lang/invoke/MethodHandle" ∧ yX3_layerDensity.cls ≠ "java/lang/invoke/VarHandle" ∧ (parseMethodDescriptor yX3_layerDensity.desc).map (fun d => d.parameters.length) = some 2 := by decide +kernel
theorem hdVX3_layerDensity : yX3_layerDensity.cls = RX3 ∧ yX3_layerDensity.cls ≠ "java/lang/invoke/MethodHandle" ∧ yX3_layerDensity.cls ≠ "java/lang/invoke/VarHandle" ∧ (parseMethodDescriptor yX3_layerDensity.desc).map (fun d => d.parameters.length) = some 2 := by decide +kernel
abbrev rX3_gain : Room := { frames := 0, cells := 0, slots := 0, locals := 0 }
theorem hdSX3_gain : yX3_gain.cls ≠ "java/lang/invoke/MethodHandle" ∧ yX3_gain.cls ≠ "java/lang/invoke/VarHandle" ∧ (parseMethodDescriptor yX3_gain.desc).map (fun d => d.parameters.length) = some 0 := by decide +kernel
theorem hdVX3_gain : yX3_gain.cls = RX3 ∧ yX3_gain.cls ≠ "java/lang/invoke/MethodHandle" ∧ yX3_gain.cls ≠ "java/lang/invoke/VarHandle" ∧ (parseMethodDescriptor yX3_gain.desc).map (fun d => d.parameters.length) = some 0 := by decide +kernel
abbrev rX3_breaks : Room := { frames := 0, cells := 0, slots := 0, locals := 0 }
theorem hdSX3_breaks : yX3_breaks.cls ≠ "java/lang/invoke/MethodHandle" ∧ yX3_breaks.cls ≠ "java/lang/invoke/VarHandle" ∧ (parseMethodDescriptor yX3_breaks.desc).map (fun d => d.parameters.length) = some 0 := by decide +kernel
theorem hdVX3_breaks : yX3_breaks.cls = RX3 ∧ yX3_breaks.cls ≠ "java/lang/invoke/MethodHandle" ∧ yX3_breaks.cls ≠ "java/lang/invoke/VarHandle" ∧ (parseMethodDescriptor yX3_breaks.desc).map (fun d => d.parameters.length) = some 0 := by decide +kernel
abbrev rX3_greatestShoePressure : Room := { frames := 0, cells := 0, slots := 0, locals := 0 }
theorem hdSX3_greatestShoePressure : yX3_greatestShoePressure.cls ≠ "java/lang/invoke/MethodHandle" ∧ yX3_greatestShoePressure.cls ≠ "java/lang/invoke/VarHandle" ∧ (parseMethodDescriptor yX3_greatestShoePressure.desc).map (fun d => d.parameters.length) = some 0 := by decide +kernel
theorem hdVX3_greatestShoePressure : yX3_greatestShoePressure.cls = RX3 ∧ yX3_greatestShoePressure.cls ≠ "java/lang/invoke/MethodHandle" ∧ yX3_greatestShoePressure.cls ≠ "java/lang/invoke/VarHandle" ∧ (parseMethodDescriptor yX3_greatestShoePressure.desc).map (fun d => d.parameters.length) = some 0 := by decide +kernel
abbrev rX3_undo : Room := { frames := 1, cells := 0, slots := 0, locals := 26 }
theorem hdSX3_undo : yX3_undo.cls ≠ "java/lang/invoke/MethodHandle" ∧ yX3_undo.cls ≠ "java/lang/invoke/VarHandle" ∧ (parseMethodDescriptor yX3_undo.desc).map (fun d => d.parameters.length) = some 0 := by decide +kernel
theorem hdVX3_undo : yX3_undo.cls = RX3 ∧ yX3_undo.cls ≠ "java/lang/invoke/MethodHandle" ∧ yX3_undo.cls ≠ "java/lang/invoke/VarHandle" ∧ (parseMethodDescriptor yX3_undo.desc).map (fun d => d.parameters.length) = some 0 := by decide +kernel
abbrev rX3_errorCount : Room := { frames := 1, cells := 0, slots := 0, locals := 22 }
theorem hdSX3_errorCount : yX3_errorCount.cls ≠ "java/lang/invoke/MethodHandle" ∧ yX3_errorCount.cls ≠ "java/lang/invoke/VarHandle" ∧ (parseMethodDescriptor yX3_errorCount.desc).map (fun d => d.parameters.length) = some 1 := by decide +kernel
theorem hdVX3_errorCount : yX3_errorCount.cls = RX3 ∧ yX3_errorCount.cls ≠ "java/lang/invoke/MethodHandle" ∧ yX3_errorCount.cls ≠ "java/lang/invoke/VarHandle" ∧ (parseMethodDescriptor yX3_errorCount.desc).map (fun d => d.parameters.length) = some 1 := by decide +kernel
abbrev rX3_mix : Room := { frames := 0, cells := 0, slots := 0, locals := 0 }
theorem hdSX3_mix : yX3_mix.cls ≠ "java/lang/invoke/MethodHandle" ∧ yX3_mix.cls ≠ "java/lang/invoke/VarHandle" ∧ (parseMethodDescriptor yX3_mix.desc).map (fun d => d.parameters.length) = some 1 := by decide +kernel
theorem hdVX3_mix : yX3_mix.cls = RX3 ∧ yX3_mix.cls ≠ "java/lang/invoke/MethodHandle" ∧ yX3_mix.cls ≠ "java/lang/invoke/VarHandle" ∧ (parseMethodDescriptor yX3_mix.desc).map (fun d => d.parameters.length) = some 1 := by decide +kernel
abbrev rX3_digest : Room := { frames := 5, cells := 0, slots := 0, locals := 111 }
theorem hdSX3_digest : yX3_digest.cls ≠ "java/lang/invoke/MethodHandle" ∧ yX3_digest.cls ≠ "java/lang/invoke/VarHandle" ∧ (parseMethodDescriptor yX3_digest.desc).map (fun d => d.parameters.length) = some 0 := by decide +kernel
theorem hdVX3_digest : yX3_digest.cls = RX3 ∧ yX3_digest.cls ≠ "java/lang/invoke/MethodHandle" ∧ yX3_digest.cls ≠ "java/lang/invoke/VarHandle" ∧ (parseMethodDescriptor yX3_digest.desc).map (fun d => d.parameters.length) = some 0 := by decide +kernel
abbrev rJ9_floorMod_7cf53 : Room := { frames := 0, cells := 0, slots := 0, locals := 0 }
theorem hdSJ9_floorMod_7cf53 : yJ9_floorMod_7cf53.cls ≠ "java/lang/invoke/MethodHandle" ∧ yJ9_floorMod_7cf53.cls ≠ "java/lang/invoke/VarHandle" ∧ (parseMethodDescriptor yJ9_floorMod_7cf53.desc).map (fun d => d.parameters.length) = some 2 := by decide +kernel
theorem hdVJ9_floorMod_7cf53 : yJ9_floorMod_7cf53.cls = RJ9 ∧ yJ9_floorMod_7cf53.cls ≠ "java/lang/invoke/MethodHandle" ∧ yJ9_floorMod_7cf53.cls ≠ "java/lang/invoke/VarHandle" ∧ (parseMethodDescriptor yJ9_floorMod_7cf53.desc).map (fun d => d.parameters.length) = some 2 := by decide +kernel
end
section
def qJ9_floorMod_7cf53 (p1 : Int32) (p2 : Int32) (Q : Int32 → Prop) : Prop := (¬ p2 = 0 ∧ (∀ v2 : Int32, v2 = p1 - p1 / p2 * p2 → ((0 ≤ (p1 ^^^ p2) → Q v2) ∧ (¬ 0 ≤ (p1 ^^^ p2) → ((v2 = 0 → Q v2) ∧ (¬ v2 = 0 → Q (v2 + p2)))))))
set_option maxHeartbeats 4000000 in
set_option maxRecDepth 100000 in
theorem kJ9_floorMod_7cf53 (l : Launch) (D : va_G) (I O : ClassId) (sz : Nat) (p1 : Int32) (p2 : Int32) (Q : Int32 → Prop) (hw : qJ9_floorMod_7cf53 p1 p2 Q) : Met l yJ9_floorMod_7cf53 wsJ9_floorMod_7cf53 rJ9_floorMod_7cf53 (mPc D I O [.int p1, .int p2] ([]) sz) (va_Qi (fun r (_ : Unit) => Q r) (mB D (va_A ([]) sz) (fun _ => [])) (va_A ([]) sz)) 0 0 (va_A ([]) sz) := by
  refine m_startF (by decide +kernel) rfl (Nat.le_of_ble_eq_true rfl) (fun p e s m below meth c ls H locs hx hb hr hml hts hown hlocks hnm hK hP hD hA hS hl => ?_)
  have hown : s.vm.findClass RJ9 = some m.cls := hown
  have hl : lv_has ls 3 [(0, .int p1), (1, .int p2)] := hl
  unfold qJ9_floorMod_7cf53 at hw
  refine lv_iload_n hx hb dJ9_floorMod_7cf53_0 rfl (lv_at hl 0 rfl) ?_
  refine lv_iload_n hx hb dJ9_floorMod_7cf53_1 rfl (lv_at hl 1 rfl) ?_
  obtain ⟨h1, hw⟩ := hw
  refine lv_irem hx hb dJ9_floorMod_7cf53_2 h1 ?_
  refine lv_topi (fun v2 ev2 => ?_)
  have hw := hw v2 ev2
  refine lv_istore_n (lv' := [(2, .int v2), (0, .int p1), (1, .int p2)]) hx hb dJ9_floorMod_7cf53_3 rfl hl (by decide) rfl (fun ls hl => ?_)
  refine lv_iload_n hx hb dJ9_floorMod_7cf53_4 rfl (lv_at hl 1 rfl) ?_
  refine lv_iload_n hx hb dJ9_floorMod_7cf53_5 rfl (lv_at hl 2 rfl) ?_
  refine lv_ixor hx hb dJ9_floorMod_7cf53_6 ?_
  refine lv_if_ge (tgt := 18) hx hb dJ9_floorMod_7cf53_7 (by decide) (fun c3 => ?_) (fun c3 => ?_)
  · have hw := hw.1 c3
    refine lv_iload_n hx hb dJ9_floorMod_7cf53_18 rfl (lv_at hl 0 rfl) ?_
    exact m_iret (u := ()) hx hb hr hlocks hS hP hD dJ9_floorMod_7cf53_19 hw
  · have hw := hw.2 c3
    refine lv_iload_n hx hb dJ9_floorMod_7cf53_10 rfl (lv_at hl 0 rfl) ?_
    refine lv_if_eq (tgt := 18) hx hb dJ9_floorMod_7cf53_11 (by decide) (fun c4 => ?_) (fun c4 => ?_)
    · have hw := hw.1 c4
      refine lv_iload_n hx hb dJ9_floorMod_7cf53_18 rfl (lv_at hl 0 rfl) ?_
      exact m_iret (u := ()) hx hb hr hlocks hS hP hD dJ9_floorMod_7cf53_19 hw
    · have hw := hw.2 c4
      refine lv_iload_n hx hb dJ9_floorMod_7cf53_14 rfl (lv_at hl 0 rfl) ?_
      refine lv_iload_n hx hb dJ9_floorMod_7cf53_15 rfl (lv_at hl 2 rfl) ?_
      refine lv_iadd hx hb dJ9_floorMod_7cf53_16 ?_
      exact m_iret (u := ()) hx hb hr hlocks hS hP hD dJ9_floorMod_7cf53_17 hw
def qX0_clear (x : Col) (Q : Col → Prop) : Prop := Q (zF x, zV x, zD x, 0, 0, 0)
set_option maxHeartbeats 4000000 in
set_option maxRecDepth 100000 in
theorem kX0_clear (l : Launch) (D : va_G) (I O : ClassId) (a : CA) (sz : Nat) (x : Col) (Q : Col → Prop) (hw : qX0_clear x Q) : Met l yX0_clear wsX0_clear rX0_clear (mPc D I O [.ref a.1] (colB I a x) sz) (va_Qv (fun (u : Col) => Q u) (mB D (va_A (colB I a x) sz) (fun u => colB I a u)) (va_A (colB I a x) sz)) 0 0 (va_A (colB I a x) sz) := by
  refine m_start (by decide) rfl (Nat.le_of_ble_eq_true rfl) (fun p e s m below meth c ls H locs hx hb hr hml hts hown hlocks hnm hK hP hD hA hS hl => ?_)
  have hown : s.vm.findClass RX0 = some m.cls := hown
  have hl : lv_has ls 1 [(0, .ref a.1)] := hl
  have hiX0 : ∀ w ∈ wsX00, w ∈ wsX0_clear := by decide +kernel
  have f0 := hts (.fieldLink RX0 22 "WellControl$Column" "oldest" "I") (by decide +kernel)
  have f1 := hts (.fieldLink RX0 26 "WellControl$Column" "count" "I") (by decide +kernel)
  have f2 := hts (.fieldLink RX0 29 "WellControl$Column" "load" "J") (by decide +kernel)
  unfold qX0_clear at hw
  refine lv_aload_n hx hb dX0_clear_0 rfl (lv_at hl 0 rfl) ?_
  refine lv_iconst (v := 0) hx hb dX0_clear_1 (by decide) ?_
  refine va_put (ci := 0) (v := .int 0) (ty := .int) (C := RX0) (T := TX0) (N := 6) hx hb hts hiX0 tyX0 tyX0_ok nmX0 hown hK.1 hP hD hS 0 rfl rfl 3 (by decide) f0 (fun _ h9 => h9) rfl (by decide +kernel) rfl rfl (Nat.le_of_ble_eq_true rfl) dX0_clear_2 (fun H locs hP hD hS => ?_)
  have hP : va_P D vwCl (colB I a (zF x, zV x, zD x, 0, zN x, zL x)) H := hP
  have hD : va_D (va_A (colB I a x) sz) (colB I a (zF x, zV x, zD x, 0, zN x, zL x)) := hD
  refine lv_aload_n hx hb dX0_clear_5 rfl (lv_at hl 0 rfl) ?_
  refine lv_iconst (v := 0) hx hb dX0_clear_6 (by decide) ?_
  refine va_put (ci := 0) (v := .int 0) (ty := .int) (C := RX0) (T := TX0) (N := 6) hx hb hts hiX0 tyX0 tyX0_ok nmX0 hown hK.1 hP hD hS 0 rfl rfl 4 (by decide) f1 (fun _ h9 => h9) rfl (by decide +kernel) rfl rfl (Nat.le_of_ble_eq_true rfl) dX0_clear_7 (fun H locs hP hD hS => ?_)
  have hP : va_P D vwCl (colB I a (zF x, zV x, zD x, 0, 0, zL x)) H := hP
  have hD : va_D (va_A (colB I a x) sz) (colB I a (zF x, zV x, zD x, 0, 0, zL x)) := hD
  refine lv_aload_n hx hb dX0_clear_10 rfl (lv_at hl 0 rfl) ?_
  refine lv_lconst (v := 0) hx hb dX0_clear_11 (by decide) ?_
  refine va_put (ci := 0) (v := .long 0) (ty := .long) (C := RX0) (T := TX0) (N := 6) hx hb hts hiX0 tyX0 tyX0_ok nmX0 hown hK.1 hP hD hS 0 rfl rfl 5 (by decide) f2 (fun _ h9 => h9) rfl (by decide +kernel) rfl rfl (Nat.le_of_ble_eq_true rfl) dX0_clear_12 (fun H locs hP hD hS => ?_)
  have hP : va_P D vwCl (colB I a (zF x, zV x, zD x, 0, 0, 0)) H := hP
  have hD : va_D (va_A (colB I a x) sz) (colB I a (zF x, zV x, zD x, 0, 0, 0)) := hD
  exact m_vret (u := (zF x, zV x, zD x, 0, 0, 0)) hx hb hr hlocks hS hP hD dX0_clear_15 hw
def qX0_placeOfAge (x : Col) (p1 : Int32) (Q : Int32 → Prop) : Prop := (qJ9_floorMod_7cf53 ((zO x) + p1) 520 (fun r1 => Q r1))
set_option maxHeartbeats 4000000 in
set_option maxRecDepth 100000 in
theorem kX0_placeOfAge (l : Launch) (D : va_G) (I O : ClassId) (a : CA) (sz : Nat) (x : Col) (p1 : Int32) (Q : Int32 → Prop) (hw : qX0_placeOfAge x p1 Q) : Met l yX0_placeOfAge wsX0_placeOfAge rX0_placeOfAge (mPc D I O [.ref a.1, .int p1] (colB I a x) sz) (va_Qi (fun r (_ : Unit) => Q r) (mB D (va_A (colB I a x) sz) (fun _ => colB I a x)) (va_A (colB I a x) sz)) 0 0 (va_A (colB I a x) sz) := by
  refine m_start (by decide) rfl (Nat.le_of_ble_eq_true rfl) (fun p e s m below meth c ls H locs hx hb hr hml hts hown hlocks hnm hK hP hD hA hS hl => ?_)
  have hown : s.vm.findClass RX0 = some m.cls := hown
  have hl : lv_has ls 2 [(0, .ref a.1), (1, .int p1)] := hl
  have hiX0 : ∀ w ∈ wsX00, w ∈ wsX0_placeOfAge := by decide +kernel
  have f0 := hts (.fieldLink RX0 22 "WellControl$Column" "oldest" "I") (by decide +kernel)
  unfold qX0_placeOfAge at hw
  refine lv_aload_n hx hb dX0_placeOfAge_0 rfl (lv_at hl 0 rfl) ?_
  refine va_get (ci := 0) (v := .int (zO x)) (C := RX0) (T := TX0) (N := 6) hx hb hts hiX0 hown hK.1 hP 0 rfl rfl 3 (by decide) f0 (fun _ h9 => h9) rfl dX0_placeOfAge_1 ?_
  refine lv_iload_n hx hb dX0_placeOfAge_4 rfl (lv_at hl 1 rfl) ?_
  refine lv_iadd hx hb dX0_placeOfAge_5 ?_
  refine lv_sipush (v := 520) hx hb dX0_placeOfAge_6 (by decide) ?_
  refine m0_i (mv_S (As := [.int ((zO x) + p1), .int 520]) (rest := []) ⟨hx, hb, hml, hown, hts⟩ (kJ9_floorMod_7cf53 l D I O H.size ((zO x) + p1) 520 _ hw) (va_cwS 2 hts gX0_placeOfAge_J9_floorMod_7cf53 rfl rfl rfl hdSJ9_floorMod_7cf53 ⟨(Nat.le_of_ble_eq_true rfl), (Nat.le_of_ble_eq_true rfl)⟩) hK (nil_P (D := D) (H := H)) (nil_D (A := va_A (colB I a x) sz)) rfl hl.1 rfl (Nat.le_of_ble_eq_true rfl) dX0_placeOfAge_9 ⟨(Nat.le_of_ble_eq_true rfl), (Nat.le_of_ble_eq_true rfl)⟩) hP hD hS hA (fun r1 _ H locs hw hP hD hS => ?_)
  exact m_iret (u := ()) hx hb hr hlocks hS hP hD dX0_placeOfAge_12 hw
def qX0_placeOfIndex (x : Col) (p1 : Int32) (Q : Int32 → Prop) : Prop := (((zF x) = 0 → (qJ9_floorMod_7cf53 ((zO x) + p1) 520 (fun r2 => Q r2))) ∧ (¬ (zF x) = 0 → (∀ v3 : Int32, v3 = ((zN x) - 1) - p1 → (qJ9_floorMod_7cf53 ((zO x) + v3) 520 (fun r4 => Q r4)))))
set_option maxHeartbeats 4000000 in
set_option maxRecDepth 100000 in
theorem kX0_placeOfIndex (l : Launch) (D : va_G) (I O : ClassId) (a : CA) (sz : Nat) (x : Col) (p1 : Int32) (Q : Int32 → Prop) (hw : qX0_placeOfIndex x p1 Q) : Met l yX0_placeOfIndex wsX0_placeOfIndex rX0_placeOfIndex (mPc D I O [.ref a.1, .int p1] (colB I a x) sz) (va_Qi (fun r (_ : Unit) => Q r) (mB D (va_A (colB I a x) sz) (fun _ => colB I a x)) (va_A (colB I a x) sz)) 0 0 (va_A (colB I a x) sz) := by
  refine m_start (by decide) rfl (Nat.le_of_ble_eq_true rfl) (fun p e s m below meth c ls H locs hx hb hr hml hts hown hlocks hnm hK hP hD hA hS hl => ?_)
  have hown : s.vm.findClass RX0 = some m.cls := hown
  have hl : lv_has ls 3 [(0, .ref a.1), (1, .int p1)] := hl
  have hiX0 : ∀ w ∈ wsX00, w ∈ wsX0_placeOfIndex := by decide +kernel
  have f0 := hts (.fieldLink RX0 18 "WellControl$Column" "filledFromTop" "Z") (by decide +kernel)
  have f1 := hts (.fieldLink RX0 22 "WellControl$Column" "oldest" "I") (by decide +kernel)
  have f2 := hts (.fieldLink RX0 26 "WellControl$Column" "count" "I") (by decide +kernel)
  unfold qX0_placeOfIndex at hw
  refine lv_aload_n hx hb dX0_placeOfIndex_0 rfl (lv_at hl 0 rfl) ?_
  refine va_get (ci := 0) (v := .int (zF x)) (C := RX0) (T := TX0) (N := 6) hx hb hts hiX0 hown hK.1 hP 0 rfl rfl 0 (by decide) f0 (fun _ h9 => h9) rfl dX0_placeOfIndex_1 ?_
  refine lv_if_eq (tgt := 18) hx hb dX0_placeOfIndex_4 (by decide) (fun c1 => ?_) (fun c1 => ?_)
  · have hw := hw.1 c1
    refine lv_iload_n hx hb dX0_placeOfIndex_18 rfl (lv_at hl 1 rfl) ?_
    refine lv_istore_n (lv' := [(2, .int p1), (0, .ref a.1), (1, .int p1)]) hx hb dX0_placeOfIndex_19 rfl hl (by decide) rfl (fun ls hl => ?_)
    refine lv_aload_n hx hb dX0_placeOfIndex_20 rfl (lv_at hl 1 rfl) ?_
    refine va_get (ci := 0) (v := .int (zO x)) (C := RX0) (T := TX0) (N := 6) hx hb hts hiX0 hown hK.1 hP 0 rfl rfl 3 (by decide) f1 (fun _ h9 => h9) rfl dX0_placeOfIndex_21 ?_
    refine lv_iload_n hx hb dX0_placeOfIndex_24 rfl (lv_at hl 0 rfl) ?_
    refine lv_iadd hx hb dX0_placeOfIndex_25 ?_
    refine lv_sipush (v := 520) hx hb dX0_placeOfIndex_26 (by decide) ?_
    refine m0_i (mv_S (As := [.int ((zO x) + p1), .int 520]) (rest := []) ⟨hx, hb, hml, hown, hts⟩ (kJ9_floorMod_7cf53 l D I O H.size ((zO x) + p1) 520 _ hw) (va_cwS 2 hts gX0_placeOfIndex_J9_floorMod_7cf53 rfl rfl rfl hdSJ9_floorMod_7cf53 ⟨(Nat.le_of_ble_eq_true rfl), (Nat.le_of_ble_eq_true rfl)⟩) hK (nil_P (D := D) (H := H)) (nil_D (A := va_A (colB I a x) sz)) rfl hl.1 rfl (Nat.le_of_ble_eq_true rfl) dX0_placeOfIndex_29 ⟨(Nat.le_of_ble_eq_true rfl), (Nat.le_of_ble_eq_true rfl)⟩) hP hD hS hA (fun r2 _ H locs hw hP hD hS => ?_)
    exact m_iret (u := ()) hx hb hr hlocks hS hP hD dX0_placeOfIndex_32 hw
  · have hw := hw.2 c1
    refine lv_aload_n hx hb dX0_placeOfIndex_7 rfl (lv_at hl 0 rfl) ?_
    refine va_get (ci := 0) (v := .int (zN x)) (C := RX0) (T := TX0) (N := 6) hx hb hts hiX0 hown hK.1 hP 0 rfl rfl 4 (by decide) f2 (fun _ h9 => h9) rfl dX0_placeOfIndex_8 ?_
    refine lv_iconst (v := 1) hx hb dX0_placeOfIndex_11 (by decide) ?_
    refine lv_isub hx hb dX0_placeOfIndex_12 ?_
    refine lv_iload_n hx hb dX0_placeOfIndex_13 rfl (lv_at hl 1 rfl) ?_
    refine lv_isub hx hb dX0_placeOfIndex_14 ?_
    refine lv_goto (tgt := 19) hx hb dX0_placeOfIndex_15 (by decide) ?_
    refine lv_topi (fun v3 ev3 => ?_)
    have hw := hw v3 ev3
    refine lv_istore_n (lv' := [(2, .int v3), (0, .ref a.1), (1, .int p1)]) hx hb dX0_placeOfIndex_19 rfl hl (by decide) rfl (fun ls hl => ?_)
    refine lv_aload_n hx hb dX0_placeOfIndex_20 rfl (lv_at hl 1 rfl) ?_
    refine va_get (ci := 0) (v := .int (zO x)) (C := RX0) (T := TX0) (N := 6) hx hb hts hiX0 hown hK.1 hP 0 rfl rfl 3 (by decide) f1 (fun _ h9 => h9) rfl dX0_placeOfIndex_21 ?_
    refine lv_iload_n hx hb dX0_placeOfIndex_24 rfl (lv_at hl 0 rfl) ?_
    refine lv_iadd hx hb dX0_placeOfIndex_25 ?_
    refine lv_sipush (v := 520) hx hb dX0_placeOfIndex_26 (by decide) ?_
    refine m0_i (mv_S (As := [.int ((zO x) + v3), .int 520]) (rest := []) ⟨hx, hb, hml, hown, hts⟩ (kJ9_floorMod_7cf53 l D I O H.size ((zO x) + v3) 520 _ hw) (va_cwS 2 hts gX0_placeOfIndex_J9_floorMod_7cf53 rfl rfl rfl hdSJ9_floorMod_7cf53 ⟨(Nat.le_of_ble_eq_true rfl), (Nat.le_of_ble_eq_true rfl)⟩) hK (nil_P (D := D) (H := H)) (nil_D (A := va_A (colB I a x) sz)) rfl hl.1 rfl (Nat.le_of_ble_eq_true rfl) dX0_placeOfIndex_29 ⟨(Nat.le_of_ble_eq_true rfl), (Nat.le_of_ble_eq_true rfl)⟩) hP hD hS hA (fun r4 _ H locs hw hP hD hS => ?_)
    exact m_iret (u := ()) hx hb hr hlocks hS hP hD dX0_placeOfIndex_32 hw
def qX0_volumeOf (x : Col) (p1 : Int32) (Q : Int32 → Prop) : Prop := (qX0_placeOfIndex x p1 (fun r1 => (vp_in r1 520 ∧ Q ((zV x) (Int32.toNatClampNeg r1)))))
set_option maxHeartbeats 4000000 in
set_option maxRecDepth 100000 in
theorem kX0_volumeOf (l : Launch) (D : va_G) (I O : ClassId) (a : CA) (sz : Nat) (x : Col) (p1 : Int32) (Q : Int32 → Prop) (hw : qX0_volumeOf x p1 Q) : Met l yX0_volumeOf wsX0_volumeOf rX0_volumeOf (mPc D I O [.ref a.1, .int p1] (colB I a x) sz) (va_Qi (fun r (_ : Unit) => Q r) (mB D (va_A (colB I a x) sz) (fun _ => colB I a x)) (va_A (colB I a x) sz)) 0 0 (va_A (colB I a x) sz) := by
  refine m_start (by decide) rfl (Nat.le_of_ble_eq_true rfl) (fun p e s m below meth c ls H locs hx hb hr hml hts hown hlocks hnm hK hP hD hA hS hl => ?_)
  have hown : s.vm.findClass RX0 = some m.cls := hown
  have hl : lv_has ls 2 [(0, .ref a.1), (1, .int p1)] := hl
  have hiX0 : ∀ w ∈ wsX00, w ∈ wsX0_volumeOf := by decide +kernel
  have f0 := hts (.fieldLink RX0 9 "WellControl$Column" "volumes" "[I") (by decide +kernel)
  unfold qX0_volumeOf at hw
  refine lv_aload_n hx hb dX0_volumeOf_0 rfl (lv_at hl 0 rfl) ?_
  refine va_get (ci := 0) (v := .ref a.2.1) (C := RX0) (T := TX0) (N := 6) hx hb hts hiX0 hown hK.1 hP 0 rfl rfl 1 (by decide) f0 (fun _ h9 => h9) rfl dX0_volumeOf_1 ?_
  refine lv_aload_n hx hb dX0_volumeOf_4 rfl (lv_at hl 0 rfl) ?_
  refine lv_iload_n hx hb dX0_volumeOf_5 rfl (lv_at hl 1 rfl) ?_
  refine mw_i (mv_V (As := [.int p1]) (rest := [.ref a.2.1]) ⟨hx, hb, hml, hown, hts⟩ (kX0_placeOfIndex l D I O a H.size x p1 _ hw) (cwV 1 hts gX0_volumeOf_X0_placeOfIndex rfl rfl rfl hdVX0_placeOfIndex ⟨(Nat.le_of_ble_eq_true rfl), (Nat.le_of_ble_eq_true rfl)⟩) hK hP hD 0 0 rfl rfl rfl rfl hl.1 rfl (Nat.le_of_ble_eq_true rfl) dX0_volumeOf_6 ⟨(Nat.le_of_ble_eq_true rfl), (Nat.le_of_ble_eq_true rfl)⟩) hP hD hS hA (fun r1 _ H locs hw hP hD hS => ?_)
  have hP : va_P D vwCl (colB I a x) H := hP
  have hD : va_D (va_A (colB I a x) sz) (colB I a x) := hD
  obtain ⟨h2, hw⟩ := hw
  refine va_iald hx hb hK.1 hP 1 0 rfl rfl h2 dX0_volumeOf_9 ?_
  exact m_iret (u := ()) hx hb hr hlocks hS hP hD dX0_volumeOf_10 hw
def qX0_densityOf (x : Col) (p1 : Int32) (Q : Int32 → Prop) : Prop := (qX0_placeOfIndex x p1 (fun r1 => (vp_in r1 520 ∧ Q ((zD x) (Int32.toNatClampNeg r1)))))
set_option maxHeartbeats 4000000 in
set_option maxRecDepth 100000 in
theorem kX0_densityOf (l : Launch) (D : va_G) (I O : ClassId) (a : CA) (sz : Nat) (x : Col) (p1 : Int32) (Q : Int32 → Prop) (hw : qX0_densityOf x p1 Q) : Met l yX0_densityOf wsX0_densityOf rX0_densityOf (mPc D I O [.ref a.1, .int p1] (colB I a x) sz) (va_Qi (fun r (_ : Unit) => Q r) (mB D (va_A (colB I a x) sz) (fun _ => colB I a x)) (va_A (colB I a x) sz)) 0 0 (va_A (colB I a x) sz) := by
  refine m_start (by decide) rfl (Nat.le_of_ble_eq_true rfl) (fun p e s m below meth c ls H locs hx hb hr hml hts hown hlocks hnm hK hP hD hA hS hl => ?_)
  have hown : s.vm.findClass RX0 = some m.cls := hown
  have hl : lv_has ls 2 [(0, .ref a.1), (1, .int p1)] := hl
  have hiX0 : ∀ w ∈ wsX00, w ∈ wsX0_densityOf := by decide +kernel
  have f0 := hts (.fieldLink RX0 15 "WellControl$Column" "densities" "[I") (by decide +kernel)
  unfold qX0_densityOf at hw
  refine lv_aload_n hx hb dX0_densityOf_0 rfl (lv_at hl 0 rfl) ?_
  refine va_get (ci := 0) (v := .ref a.2.2) (C := RX0) (T := TX0) (N := 6) hx hb hts hiX0 hown hK.1 hP 0 rfl rfl 2 (by decide) f0 (fun _ h9 => h9) rfl dX0_densityOf_1 ?_
  refine lv_aload_n hx hb dX0_densityOf_4 rfl (lv_at hl 0 rfl) ?_
  refine lv_iload_n hx hb dX0_densityOf_5 rfl (lv_at hl 1 rfl) ?_
  refine mw_i (mv_V (As := [.int p1]) (rest := [.ref a.2.2]) ⟨hx, hb, hml, hown, hts⟩ (kX0_placeOfIndex l D I O a H.size x p1 _ hw) (cwV 1 hts gX0_densityOf_X0_placeOfIndex rfl rfl rfl hdVX0_placeOfIndex ⟨(Nat.le_of_ble_eq_true rfl), (Nat.le_of_ble_eq_true rfl)⟩) hK hP hD 0 0 rfl rfl rfl rfl hl.1 rfl (Nat.le_of_ble_eq_true rfl) dX0_densityOf_6 ⟨(Nat.le_of_ble_eq_true rfl), (Nat.le_of_ble_eq_true rfl)⟩) hP hD hS hA (fun r1 _ H locs hw hP hD hS => ?_)
  have hP : va_P D vwCl (colB I a x) H := hP
  have hD : va_D (va_A (colB I a x) sz) (colB I a x) := hD
  obtain ⟨h2, hw⟩ := hw
  refine va_iald hx hb hK.1 hP 2 0 rfl rfl h2 dX0_densityOf_9 ?_
  exact m_iret (u := ()) hx hb hr hlocks hS hP hD dX0_densityOf_10 hw
def qX0_joinsNewest (x : Col) (p1 : Int32) (Q : Int32 → Prop) : Prop := ((520 ≤ (zN x) → Q 1) ∧ (¬ 520 ≤ (zN x) → (((zN x) ≤ 0 → Q 0) ∧ (¬ (zN x) ≤ 0 → (qX0_placeOfAge x ((zN x) - 1) (fun r3 => (vp_in r3 520 ∧ ((¬ ((zD x) (Int32.toNatClampNeg r3)) = p1 → Q 0) ∧ (((zD x) (Int32.toNatClampNeg r3)) = p1 → Q 1)))))))))
set_option maxHeartbeats 4000000 in
set_option maxRecDepth 100000 in
theorem kX0_joinsNewest (l : Launch) (D : va_G) (I O : ClassId) (a : CA) (sz : Nat) (x : Col) (p1 : Int32) (Q : Int32 → Prop) (hw : qX0_joinsNewest x p1 Q) : Met l yX0_joinsNewest wsX0_joinsNewest rX0_joinsNewest (mPc D I O [.ref a.1, .int p1] (colB I a x) sz) (va_Qi (fun r (_ : Unit) => Q r) (mB D (va_A (colB I a x) sz) (fun _ => colB I a x)) (va_A (colB I a x) sz)) 0 0 (va_A (colB I a x) sz) := by
  refine m_start (by decide) rfl (Nat.le_of_ble_eq_true rfl) (fun p e s m below meth c ls H locs hx hb hr hml hts hown hlocks hnm hK hP hD hA hS hl => ?_)
  have hown : s.vm.findClass RX0 = some m.cls := hown
  have hl : lv_has ls 2 [(0, .ref a.1), (1, .int p1)] := hl
  have hiX0 : ∀ w ∈ wsX00, w ∈ wsX0_joinsNewest := by decide +kernel
  have f0 := hts (.fieldLink RX0 26 "WellControl$Column" "count" "I") (by decide +kernel)
  have f1 := hts (.fieldLink RX0 15 "WellControl$Column" "densities" "[I") (by decide +kernel)
  unfold qX0_joinsNewest at hw
  refine lv_aload_n hx hb dX0_joinsNewest_0 rfl (lv_at hl 0 rfl) ?_
  refine va_get (ci := 0) (v := .int (zN x)) (C := RX0) (T := TX0) (N := 6) hx hb hts hiX0 hown hK.1 hP 0 rfl rfl 4 (by decide) f0 (fun _ h9 => h9) rfl dX0_joinsNewest_1 ?_
  refine lv_sipush (v := 520) hx hb dX0_joinsNewest_4 (by decide) ?_
  refine lv_icmp_ge (tgt := 36) hx hb dX0_joinsNewest_7 (by decide) (fun c1 => ?_) (fun c1 => ?_)
  · have hw := hw.1 c1
    refine lv_iconst (v := 1) hx hb dX0_joinsNewest_36 (by decide) ?_
    refine lv_goto (tgt := 41) hx hb dX0_joinsNewest_37 (by decide) ?_
    exact m_zret (u := ()) hx hb hr hlocks (by decide) hS hP hD dX0_joinsNewest_41 hw
  · have hw := hw.2 c1
    refine lv_aload_n hx hb dX0_joinsNewest_10 rfl (lv_at hl 0 rfl) ?_
    refine va_get (ci := 0) (v := .int (zN x)) (C := RX0) (T := TX0) (N := 6) hx hb hts hiX0 hown hK.1 hP 0 rfl rfl 4 (by decide) f0 (fun _ h9 => h9) rfl dX0_joinsNewest_11 ?_
    refine lv_if_le (tgt := 40) hx hb dX0_joinsNewest_14 (by decide) (fun c2 => ?_) (fun c2 => ?_)
    · have hw := hw.1 c2
      refine lv_iconst (v := 0) hx hb dX0_joinsNewest_40 (by decide) ?_
      exact m_zret (u := ()) hx hb hr hlocks (by decide) hS hP hD dX0_joinsNewest_41 hw
    · have hw := hw.2 c2
      refine lv_aload_n hx hb dX0_joinsNewest_17 rfl (lv_at hl 0 rfl) ?_
      refine va_get (ci := 0) (v := .ref a.2.2) (C := RX0) (T := TX0) (N := 6) hx hb hts hiX0 hown hK.1 hP 0 rfl rfl 2 (by decide) f1 (fun _ h9 => h9) rfl dX0_joinsNewest_18 ?_
      refine lv_aload_n hx hb dX0_joinsNewest_21 rfl (lv_at hl 0 rfl) ?_
      refine lv_aload_n hx hb dX0_joinsNewest_22 rfl (lv_at hl 0 rfl) ?_
      refine va_get (ci := 0) (v := .int (zN x)) (C := RX0) (T := TX0) (N := 6) hx hb hts hiX0 hown hK.1 hP 0 rfl rfl 4 (by decide) f0 (fun _ h9 => h9) rfl dX0_joinsNewest_23 ?_
      refine lv_iconst (v := 1) hx hb dX0_joinsNewest_26 (by decide) ?_
      refine lv_isub hx hb dX0_joinsNewest_27 ?_
      refine mw_i (mv_V (As := [.int ((zN x) - 1)]) (rest := [.ref a.2.2]) ⟨hx, hb, hml, hown, hts⟩ (kX0_placeOfAge l D I O a H.size x ((zN x) - 1) _ hw) (cwV 1 hts gX0_joinsNewest_X0_placeOfAge rfl rfl rfl hdVX0_placeOfAge ⟨(Nat.le_of_ble_eq_true rfl), (Nat.le_of_ble_eq_true rfl)⟩) hK hP hD 0 0 rfl rfl rfl rfl hl.1 rfl (Nat.le_of_ble_eq_true rfl) dX0_joinsNewest_28 ⟨(Nat.le_of_ble_eq_true rfl), (Nat.le_of_ble_eq_true rfl)⟩) hP hD hS hA (fun r3 _ H locs hw hP hD hS => ?_)
      have hP : va_P D vwCl (colB I a x) H := hP
      have hD : va_D (va_A (colB I a x) sz) (colB I a x) := hD
      obtain ⟨h4, hw⟩ := hw
      refine va_iald hx hb hK.1 hP 2 0 rfl rfl h4 dX0_joinsNewest_31 ?_
      refine lv_iload_n hx hb dX0_joinsNewest_32 rfl (lv_at hl 1 rfl) ?_
      refine lv_icmp_ne (tgt := 40) hx hb dX0_joinsNewest_33 (by decide) (fun c5 => ?_) (fun c5 => ?_)
      · have hw := hw.1 c5
        refine lv_iconst (v := 0) hx hb dX0_joinsNewest_40 (by decide) ?_
        exact m_zret (u := ()) hx hb hr hlocks (by decide) hS hP hD dX0_joinsNewest_41 hw
      · have hw := hw.2 c5
        refine lv_iconst (v := 1) hx hb dX0_joinsNewest_36 (by decide) ?_
        refine lv_goto (tgt := 41) hx hb dX0_joinsNewest_37 (by decide) ?_
        exact m_zret (u := ()) hx hb hr hlocks (by decide) hS hP hD dX0_joinsNewest_41 hw
def qX0_enter (x : Col) (p1 : Int32) (p2 : Int32) (Q : Col → Prop) : Prop := (qX0_joinsNewest x p2 (fun r1 => ((¬ r1 = 0 → (qX0_placeOfAge x ((zN x) - 1) (fun r3 => (vp_in r3 520 ∧ (vp_in r3 520 ∧ (vp_in r3 520 ∧ Q (zF x, upd (zV x) (Int32.toNatClampNeg r3) (((zV x) (Int32.toNatClampNeg r3)) + p1), zD x, zO x, zN x, (zL x) + ((Int32.toInt64 p1) * (Int32.toInt64 ((zD x) (Int32.toNatClampNeg r3))))))))))) ∧ (r1 = 0 → (qX0_placeOfAge x (zN x) (fun r7 => (vp_in r7 520 ∧ (vp_in r7 520 ∧ (qX0_placeOfAge (zF x, upd (zV x) (Int32.toNatClampNeg r7) 0, upd (zD x) (Int32.toNatClampNeg r7) p2, zO x, (zN x) + 1, zL x) (((zN x) + 1) - 1) (fun r10 => (vp_in r10 520 ∧ (vp_in r10 520 ∧ (vp_in r10 520 ∧ Q (zF x, upd (upd (zV x) (Int32.toNatClampNeg r7) 0) (Int32.toNatClampNeg r10) (((upd (zV x) (Int32.toNatClampNeg r7) 0) (Int32.toNatClampNeg r10)) + p1), upd (zD x) (Int32.toNatClampNeg r7) p2, zO x, (zN x) + 1, (zL x) + ((Int32.toInt64 p1) * (Int32.toInt64 ((upd (zD x) (Int32.toNatClampNeg r7) p2) (Int32.toNatClampNeg r10))))))))))))))))))
set_option maxHeartbeats 4000000 in
set_option maxRecDepth 100000 in
theorem kX0_enter (l : Launch) (D : va_G) (I O : ClassId) (a : CA) (sz : Nat) (x : Col) (p1 : Int32) (p2 : Int32) (Q : Col → Prop) (hw : qX0_enter x p1 p2 Q) : Met l yX0_enter wsX0_enter rX0_enter (mPc D I O [.ref a.1, .int p1, .int p2] (colB I a x) sz) (va_Qv (fun (u : Col) => Q u) (mB D (va_A (colB I a x) sz) (fun u => colB I a u)) (va_A (colB I a x) sz)) 0 0 (va_A (colB I a x) sz) := by
  refine m_start (by decide) rfl (Nat.le_of_ble_eq_true rfl) (fun p e s m below meth c ls H locs hx hb hr hml hts hown hlocks hnm hK hP hD hA hS hl => ?_)
  have hown : s.vm.findClass RX0 = some m.cls := hown
  have hl : lv_has ls 4 [(0, .ref a.1), (1, .int p1), (2, .int p2)] := hl
  have hiX0 : ∀ w ∈ wsX00, w ∈ wsX0_enter := by decide +kernel
  have f0 := hts (.fieldLink RX0 26 "WellControl$Column" "count" "I") (by decide +kernel)
  have f1 := hts (.fieldLink RX0 9 "WellControl$Column" "volumes" "[I") (by decide +kernel)
  have f2 := hts (.fieldLink RX0 29 "WellControl$Column" "load" "J") (by decide +kernel)
  have f3 := hts (.fieldLink RX0 15 "WellControl$Column" "densities" "[I") (by decide +kernel)
  unfold qX0_enter at hw
  refine lv_aload_n hx hb dX0_enter_0 rfl (lv_at hl 0 rfl) ?_
  refine lv_iload_n hx hb dX0_enter_1 rfl (lv_at hl 2 rfl) ?_
  refine mw_i (mv_V (As := [.int p2]) (rest := []) ⟨hx, hb, hml, hown, hts⟩ (kX0_joinsNewest l D I O a H.size x p2 _ hw) (cwV 1 hts gX0_enter_X0_joinsNewest rfl rfl rfl hdVX0_joinsNewest ⟨(Nat.le_of_ble_eq_true rfl), (Nat.le_of_ble_eq_true rfl)⟩) hK hP hD 0 0 rfl rfl rfl rfl hl.1 rfl (Nat.le_of_ble_eq_true rfl) dX0_enter_2 ⟨(Nat.le_of_ble_eq_true rfl), (Nat.le_of_ble_eq_true rfl)⟩) hP hD hS hA (fun r1 _ H locs hw hP hD hS => ?_)
  have hP : va_P D vwCl (colB I a x) H := hP
  have hD : va_D (va_A (colB I a x) sz) (colB I a x) := hD
  refine lv_if_ne (tgt := 41) hx hb dX0_enter_5 (by decide) (fun c2 => ?_) (fun c2 => ?_)
  · have hw := hw.1 c2
    refine lv_aload_n hx hb dX0_enter_41 rfl (lv_at hl 0 rfl) ?_
    refine lv_aload_n hx hb dX0_enter_42 rfl (lv_at hl 0 rfl) ?_
    refine va_get (ci := 0) (v := .int (zN x)) (C := RX0) (T := TX0) (N := 6) hx hb hts hiX0 hown hK.1 hP 0 rfl rfl 4 (by decide) f0 (fun _ h9 => h9) rfl dX0_enter_43 ?_
    refine lv_iconst (v := 1) hx hb dX0_enter_46 (by decide) ?_
    refine lv_isub hx hb dX0_enter_47 ?_
    refine mw_i (mv_V (As := [.int ((zN x) - 1)]) (rest := []) ⟨hx, hb, hml, hown, hts⟩ (kX0_placeOfAge l D I O a H.size x ((zN x) - 1) _ hw) (cwV 1 hts gX0_enter_X0_placeOfAge rfl rfl rfl hdVX0_placeOfAge ⟨(Nat.le_of_ble_eq_true rfl), (Nat.le_of_ble_eq_true rfl)⟩) hK hP hD 0 0 rfl rfl rfl rfl hl.1 rfl (Nat.le_of_ble_eq_true rfl) dX0_enter_48 ⟨(Nat.le_of_ble_eq_true rfl), (Nat.le_of_ble_eq_true rfl)⟩) hP hD hS hA (fun r3 _ H locs hw hP hD hS => ?_)
    have hP : va_P D vwCl (colB I a x) H := hP
    have hD : va_D (va_A (colB I a x) sz) (colB I a x) := hD
    refine lv_istore_n (lv' := [(3, .int r3), (0, .ref a.1), (1, .int p1), (2, .int p2)]) hx hb dX0_enter_51 rfl hl (by decide) rfl (fun ls hl => ?_)
    refine lv_aload_n hx hb dX0_enter_52 rfl (lv_at hl 1 rfl) ?_
    refine va_get (ci := 0) (v := .ref a.2.1) (C := RX0) (T := TX0) (N := 6) hx hb hts hiX0 hown hK.1 hP 0 rfl rfl 1 (by decide) f1 (fun _ h9 => h9) rfl dX0_enter_53 ?_
    refine lv_iload_n hx hb dX0_enter_56 rfl (lv_at hl 0 rfl) ?_
    refine lv_dup2_11 hx hb dX0_enter_57 rfl rfl ?_
    obtain ⟨h4, hw⟩ := hw
    refine va_iald hx hb hK.1 hP 1 0 rfl rfl h4 dX0_enter_58 ?_
    refine lv_iload_n hx hb dX0_enter_59 rfl (lv_at hl 2 rfl) ?_
    refine lv_iadd hx hb dX0_enter_60 ?_
    obtain ⟨h5, hw⟩ := hw
    refine va_iast hx hb hK.1 hP hD hS 1 0 rfl rfl h5 dX0_enter_61 (fun H locs hP hD hS => ?_)
    have hP : va_P D vwCl (colB I a (zF x, upd (zV x) (Int32.toNatClampNeg r3) (((zV x) (Int32.toNatClampNeg r3)) + p1), zD x, zO x, zN x, zL x)) H := hP
    have hD : va_D (va_A (colB I a x) sz) (colB I a (zF x, upd (zV x) (Int32.toNatClampNeg r3) (((zV x) (Int32.toNatClampNeg r3)) + p1), zD x, zO x, zN x, zL x)) := hD
    refine lv_aload_n hx hb dX0_enter_62 rfl (lv_at hl 1 rfl) ?_
    refine lv_dup hx hb dX0_enter_63 rfl ?_
    refine va_get (ci := 0) (v := .long (zL x)) (C := RX0) (T := TX0) (N := 6) hx hb hts hiX0 hown hK.1 hP 0 rfl rfl 5 (by decide) f2 (fun _ h9 => h9) rfl dX0_enter_64 ?_
    refine lv_iload_n hx hb dX0_enter_67 rfl (lv_at hl 2 rfl) ?_
    refine lv_i2l (v := Int32.toInt64 p1) hx hb dX0_enter_68 rfl ?_
    refine lv_aload_n hx hb dX0_enter_69 rfl (lv_at hl 1 rfl) ?_
    refine va_get (ci := 0) (v := .ref a.2.2) (C := RX0) (T := TX0) (N := 6) hx hb hts hiX0 hown hK.1 hP 0 rfl rfl 2 (by decide) f3 (fun _ h9 => h9) rfl dX0_enter_70 ?_
    refine lv_iload_n hx hb dX0_enter_73 rfl (lv_at hl 0 rfl) ?_
    obtain ⟨h6, hw⟩ := hw
    refine va_iald hx hb hK.1 hP 2 0 rfl rfl h6 dX0_enter_74 ?_
    refine lv_i2l (v := Int32.toInt64 ((zD x) (Int32.toNatClampNeg r3))) hx hb dX0_enter_75 rfl ?_
    refine lv_lmul hx hb dX0_enter_76 ?_
    refine lv_ladd hx hb dX0_enter_77 ?_
    refine va_put (ci := 0) (v := .long ((zL x) + ((Int32.toInt64 p1) * (Int32.toInt64 ((zD x) (Int32.toNatClampNeg r3)))))) (ty := .long) (C := RX0) (T := TX0) (N := 6) hx hb hts hiX0 tyX0 tyX0_ok nmX0 hown hK.1 hP hD hS 0 rfl rfl 5 (by decide) f2 (fun _ h9 => h9) rfl (by decide +kernel) rfl rfl (Nat.le_of_ble_eq_true rfl) dX0_enter_78 (fun H locs hP hD hS => ?_)
    have hP : va_P D vwCl (colB I a (zF x, upd (zV x) (Int32.toNatClampNeg r3) (((zV x) (Int32.toNatClampNeg r3)) + p1), zD x, zO x, zN x, (zL x) + ((Int32.toInt64 p1) * (Int32.toInt64 ((zD x) (Int32.toNatClampNeg r3)))))) H := hP
    have hD : va_D (va_A (colB I a x) sz) (colB I a (zF x, upd (zV x) (Int32.toNatClampNeg r3) (((zV x) (Int32.toNatClampNeg r3)) + p1), zD x, zO x, zN x, (zL x) + ((Int32.toInt64 p1) * (Int32.toInt64 ((zD x) (Int32.toNatClampNeg r3)))))) := hD
    exact m_vret (u := (zF x, upd (zV x) (Int32.toNatClampNeg r3) (((zV x) (Int32.toNatClampNeg r3)) + p1), zD x, zO x, zN x, (zL x) + ((Int32.toInt64 p1) * (Int32.toInt64 ((zD x) (Int32.toNatClampNeg r3)))))) hx hb hr hlocks hS hP hD dX0_enter_81 hw
  · have hw := hw.2 c2
    refine lv_aload_n hx hb dX0_enter_8 rfl (lv_at hl 0 rfl) ?_
    refine lv_aload_n hx hb dX0_enter_9 rfl (lv_at hl 0 rfl) ?_
    refine va_get (ci := 0) (v := .int (zN x)) (C := RX0) (T := TX0) (N := 6) hx hb hts hiX0 hown hK.1 hP 0 rfl rfl 4 (by decide) f0 (fun _ h9 => h9) rfl dX0_enter_10 ?_
    refine mw_i (mv_V (As := [.int (zN x)]) (rest := []) ⟨hx, hb, hml, hown, hts⟩ (kX0_placeOfAge l D I O a H.size x (zN x) _ hw) (cwV 1 hts gX0_enter_X0_placeOfAge rfl rfl rfl hdVX0_placeOfAge ⟨(Nat.le_of_ble_eq_true rfl), (Nat.le_of_ble_eq_true rfl)⟩) hK hP hD 0 0 rfl rfl rfl rfl hl.1 rfl (Nat.le_of_ble_eq_true rfl) dX0_enter_13 ⟨(Nat.le_of_ble_eq_true rfl), (Nat.le_of_ble_eq_true rfl)⟩) hP hD hS hA (fun r7 _ H locs hw hP hD hS => ?_)
    have hP : va_P D vwCl (colB I a x) H := hP
    have hD : va_D (va_A (colB I a x) sz) (colB I a x) := hD
    refine lv_istore_n (lv' := [(3, .int r7), (0, .ref a.1), (1, .int p1), (2, .int p2)]) hx hb dX0_enter_16 rfl hl (by decide) rfl (fun ls hl => ?_)
    refine lv_aload_n hx hb dX0_enter_17 rfl (lv_at hl 1 rfl) ?_
    refine va_get (ci := 0) (v := .ref a.2.1) (C := RX0) (T := TX0) (N := 6) hx hb hts hiX0 hown hK.1 hP 0 rfl rfl 1 (by decide) f1 (fun _ h9 => h9) rfl dX0_enter_18 ?_
    refine lv_iload_n hx hb dX0_enter_21 rfl (lv_at hl 0 rfl) ?_
    refine lv_iconst (v := 0) hx hb dX0_enter_22 (by decide) ?_
    obtain ⟨h8, hw⟩ := hw
    refine va_iast hx hb hK.1 hP hD hS 1 0 rfl rfl h8 dX0_enter_23 (fun H locs hP hD hS => ?_)
    have hP : va_P D vwCl (colB I a (zF x, upd (zV x) (Int32.toNatClampNeg r7) 0, zD x, zO x, zN x, zL x)) H := hP
    have hD : va_D (va_A (colB I a x) sz) (colB I a (zF x, upd (zV x) (Int32.toNatClampNeg r7) 0, zD x, zO x, zN x, zL x)) := hD
    refine lv_aload_n hx hb dX0_enter_24 rfl (lv_at hl 1 rfl) ?_
    refine va_get (ci := 0) (v := .ref a.2.2) (C := RX0) (T := TX0) (N := 6) hx hb hts hiX0 hown hK.1 hP 0 rfl rfl 2 (by decide) f3 (fun _ h9 => h9) rfl dX0_enter_25 ?_
    refine lv_iload_n hx hb dX0_enter_28 rfl (lv_at hl 0 rfl) ?_
    refine lv_iload_n hx hb dX0_enter_29 rfl (lv_at hl 3 rfl) ?_
    obtain ⟨h9, hw⟩ := hw
    refine va_iast hx hb hK.1 hP hD hS 2 0 rfl rfl h9 dX0_enter_30 (fun H locs hP hD hS => ?_)
    have hP : va_P D vwCl (colB I a (zF x, upd (zV x) (Int32.toNatClampNeg r7) 0, upd (zD x) (Int32.toNatClampNeg r7) p2, zO x, zN x, zL x)) H := hP
    have hD : va_D (va_A (colB I a x) sz) (colB I a (zF x, upd (zV x) (Int32.toNatClampNeg r7) 0, upd (zD x) (Int32.toNatClampNeg r7) p2, zO x, zN x, zL x)) := hD
    refine lv_aload_n hx hb dX0_enter_31 rfl (lv_at hl 1 rfl) ?_
    refine lv_dup hx hb dX0_enter_32 rfl ?_
    refine va_get (ci := 0) (v := .int (zN x)) (C := RX0) (T := TX0) (N := 6) hx hb hts hiX0 hown hK.1 hP 0 rfl rfl 4 (by decide) f0 (fun _ h9 => h9) rfl dX0_enter_33 ?_
    refine lv_iconst (v := 1) hx hb dX0_enter_36 (by decide) ?_
    refine lv_iadd hx hb dX0_enter_37 ?_
    refine va_put (ci := 0) (v := .int ((zN x) + 1)) (ty := .int) (C := RX0) (T := TX0) (N := 6) hx hb hts hiX0 tyX0 tyX0_ok nmX0 hown hK.1 hP hD hS 0 rfl rfl 4 (by decide) f0 (fun _ h9 => h9) rfl (by decide +kernel) rfl rfl (Nat.le_of_ble_eq_true rfl) dX0_enter_38 (fun H locs hP hD hS => ?_)
    have hP : va_P D vwCl (colB I a (zF x, upd (zV x) (Int32.toNatClampNeg r7) 0, upd (zD x) (Int32.toNatClampNeg r7) p2, zO x, (zN x) + 1, zL x)) H := hP
    have hD : va_D (va_A (colB I a x) sz) (colB I a (zF x, upd (zV x) (Int32.toNatClampNeg r7) 0, upd (zD x) (Int32.toNatClampNeg r7) p2, zO x, (zN x) + 1, zL x)) := hD
    refine lv_aload_n hx hb dX0_enter_41 rfl (lv_at hl 1 rfl) ?_
    refine lv_aload_n hx hb dX0_enter_42 rfl (lv_at hl 1 rfl) ?_
    refine va_get (ci := 0) (v := .int ((zN x) + 1)) (C := RX0) (T := TX0) (N := 6) hx hb hts hiX0 hown hK.1 hP 0 rfl rfl 4 (by decide) f0 (fun _ h9 => h9) rfl dX0_enter_43 ?_
    refine lv_iconst (v := 1) hx hb dX0_enter_46 (by decide) ?_
    refine lv_isub hx hb dX0_enter_47 ?_
    refine mw_i (mv_V (As := [.int (((zN x) + 1) - 1)]) (rest := []) ⟨hx, hb, hml, hown, hts⟩ (kX0_placeOfAge l D I O a H.size (zF x, upd (zV x) (Int32.toNatClampNeg r7) 0, upd (zD x) (Int32.toNatClampNeg r7) p2, zO x, (zN x) + 1, zL x) (((zN x) + 1) - 1) _ hw) (cwV 1 hts gX0_enter_X0_placeOfAge rfl rfl rfl hdVX0_placeOfAge ⟨(Nat.le_of_ble_eq_true rfl), (Nat.le_of_ble_eq_true rfl)⟩) hK hP hD 0 0 rfl rfl rfl rfl hl.1 rfl (Nat.le_of_ble_eq_true rfl) dX0_enter_48 ⟨(Nat.le_of_ble_eq_true rfl), (Nat.le_of_ble_eq_true rfl)⟩) hP hD hS hA (fun r10 _ H locs hw hP hD hS => ?_)
    have hP : va_P D vwCl (colB I a (zF x, upd (zV x) (Int32.toNatClampNeg r7) 0, upd (zD x) (Int32.toNatClampNeg r7) p2, zO x, (zN x) + 1, zL x)) H := hP
    have hD : va_D (va_A (colB I a x) sz) (colB I a (zF x, upd (zV x) (Int32.toNatClampNeg r7) 0, upd (zD x) (Int32.toNatClampNeg r7) p2, zO x, (zN x) + 1, zL x)) := hD
    refine lv_istore_n (lv' := [(3, .int r10), (0, .ref a.1), (1, .int p1), (2, .int p2)]) hx hb dX0_enter_51 rfl hl (by decide) rfl (fun ls hl => ?_)
    refine lv_aload_n hx hb dX0_enter_52 rfl (lv_at hl 1 rfl) ?_
    refine va_get (ci := 0) (v := .ref a.2.1) (C := RX0) (T := TX0) (N := 6) hx hb hts hiX0 hown hK.1 hP 0 rfl rfl 1 (by decide) f1 (fun _ h9 => h9) rfl dX0_enter_53 ?_
    refine lv_iload_n hx hb dX0_enter_56 rfl (lv_at hl 0 rfl) ?_
    refine lv_dup2_11 hx hb dX0_enter_57 rfl rfl ?_
    obtain ⟨h11, hw⟩ := hw
    refine va_iald hx hb hK.1 hP 1 0 rfl rfl h11 dX0_enter_58 ?_
    refine lv_iload_n hx hb dX0_enter_59 rfl (lv_at hl 2 rfl) ?_
    refine lv_iadd hx hb dX0_enter_60 ?_
    obtain ⟨h12, hw⟩ := hw
    refine va_iast hx hb hK.1 hP hD hS 1 0 rfl rfl h12 dX0_enter_61 (fun H locs hP hD hS => ?_)
    have hP : va_P D vwCl (colB I a (zF x, upd (upd (zV x) (Int32.toNatClampNeg r7) 0) (Int32.toNatClampNeg r10) (((upd (zV x) (Int32.toNatClampNeg r7) 0) (Int32.toNatClampNeg r10)) + p1), upd (zD x) (Int32.toNatClampNeg r7) p2, zO x, (zN x) + 1, zL x)) H := hP
    have hD : va_D (va_A (colB I a x) sz) (colB I a (zF x, upd (upd (zV x) (Int32.toNatClampNeg r7) 0) (Int32.toNatClampNeg r10) (((upd (zV x) (Int32.toNatClampNeg r7) 0) (Int32.toNatClampNeg r10)) + p1), upd (zD x) (Int32.toNatClampNeg r7) p2, zO x, (zN x) + 1, zL x)) := hD
    refine lv_aload_n hx hb dX0_enter_62 rfl (lv_at hl 1 rfl) ?_
    refine lv_dup hx hb dX0_enter_63 rfl ?_
    refine va_get (ci := 0) (v := .long (zL x)) (C := RX0) (T := TX0) (N := 6) hx hb hts hiX0 hown hK.1 hP 0 rfl rfl 5 (by decide) f2 (fun _ h9 => h9) rfl dX0_enter_64 ?_
    refine lv_iload_n hx hb dX0_enter_67 rfl (lv_at hl 2 rfl) ?_
    refine lv_i2l (v := Int32.toInt64 p1) hx hb dX0_enter_68 rfl ?_
    refine lv_aload_n hx hb dX0_enter_69 rfl (lv_at hl 1 rfl) ?_
    refine va_get (ci := 0) (v := .ref a.2.2) (C := RX0) (T := TX0) (N := 6) hx hb hts hiX0 hown hK.1 hP 0 rfl rfl 2 (by decide) f3 (fun _ h9 => h9) rfl dX0_enter_70 ?_
    refine lv_iload_n hx hb dX0_enter_73 rfl (lv_at hl 0 rfl) ?_
    obtain ⟨h13, hw⟩ := hw
    refine va_iald hx hb hK.1 hP 2 0 rfl rfl h13 dX0_enter_74 ?_
    refine lv_i2l (v := Int32.toInt64 ((upd (zD x) (Int32.toNatClampNeg r7) p2) (Int32.toNatClampNeg r10))) hx hb dX0_enter_75 rfl ?_
    refine lv_lmul hx hb dX0_enter_76 ?_
    refine lv_ladd hx hb dX0_enter_77 ?_
    refine va_put (ci := 0) (v := .long ((zL x) + ((Int32.toInt64 p1) * (Int32.toInt64 ((upd (zD x) (Int32.toNatClampNeg r7) p2) (Int32.toNatClampNeg r10)))))) (ty := .long) (C := RX0) (T := TX0) (N := 6) hx hb hts hiX0 tyX0 tyX0_ok nmX0 hown hK.1 hP hD hS 0 rfl rfl 5 (by decide) f2 (fun _ h9 => h9) rfl (by decide +kernel) rfl rfl (Nat.le_of_ble_eq_true rfl) dX0_enter_78 (fun H locs hP hD hS => ?_)
    have hP : va_P D vwCl (colB I a (zF x, upd (upd (zV x) (Int32.toNatClampNeg r7) 0) (Int32.toNatClampNeg r10) (((upd (zV x) (Int32.toNatClampNeg r7) 0) (Int32.toNatClampNeg r10)) + p1), upd (zD x) (Int32.toNatClampNeg r7) p2, zO x, (zN x) + 1, (zL x) + ((Int32.toInt64 p1) * (Int32.toInt64 ((upd (zD x) (Int32.toNatClampNeg r7) p2) (Int32.toNatClampNeg r10)))))) H := hP
    have hD : va_D (va_A (colB I a x) sz) (colB I a (zF x, upd (upd (zV x) (Int32.toNatClampNeg r7) 0) (Int32.toNatClampNeg r10) (((upd (zV x) (Int32.toNatClampNeg r7) 0) (Int32.toNatClampNeg r10)) + p1), upd (zD x) (Int32.toNatClampNeg r7) p2, zO x, (zN x) + 1, (zL x) + ((Int32.toInt64 p1) * (Int32.toInt64 ((upd (zD x) (Int32.toNatClampNeg r7) p2) (Int32.toNatClampNeg r10)))))) := hD
    exact m_vret (u := (zF x, upd (upd (zV x) (Int32.toNatClampNeg r7) 0) (Int32.toNatClampNeg r10) (((upd (zV x) (Int32.toNatClampNeg r7) 0) (Int32.toNatClampNeg r10)) + p1), upd (zD x) (Int32.toNatClampNeg r7) p2, zO x, (zN x) + 1, (zL x) + ((Int32.toInt64 p1) * (Int32.toInt64 ((upd (zD x) (Int32.toNatClampNeg r7) p2) (Int32.toNatClampNeg r10)))))) hx hb hr hlocks hS hP hD dX0_enter_81 hw
def qX0_releaseOldest (x : Col) (p1 : Int32) (Q : Int32 → Col → Prop) : Prop := (qX0_placeOfAge x 0 (fun r1 => (vp_in r1 520 ∧ (∀ v3 : Int32, v3 = (if ((zV x) (Int32.toNatClampNeg r1)) < p1 then ((zV x) (Int32.toNatClampNeg r1)) else p1) → (vp_in r1 520 ∧ (vp_in r1 520 ∧ (vp_in r1 520 ∧ (vp_in r1 520 ∧ ((¬ ((upd (zV x) (Int32.toNatClampNeg r1) (((zV x) (Int32.toNatClampNeg r1)) - v3)) (Int32.toNatClampNeg r1)) = 0 → Q v3 (zF x, upd (zV x) (Int32.toNatClampNeg r1) (((zV x) (Int32.toNatClampNeg r1)) - v3), zD x, zO x, zN x, (zL x) - ((Int32.toInt64 v3) * (Int32.toInt64 ((zD x) (Int32.toNatClampNeg r1)))))) ∧ (((upd (zV x) (Int32.toNatClampNeg r1) (((zV x) (Int32.toNatClampNeg r1)) - v3)) (Int32.toNatClampNeg r1)) = 0 → (qX0_placeOfAge (zF x, upd (zV x) (Int32.toNatClampNeg r1) (((zV x) (Int32.toNatClampNeg r1)) - v3), zD x, zO x, zN x, (zL x) - ((Int32.toInt64 v3) * (Int32.toInt64 ((zD x) (Int32.toNatClampNeg r1))))) 1 (fun r9 => Q v3 (zF x, upd (zV x) (Int32.toNatClampNeg r1) (((zV x) (Int32.toNatClampNeg r1)) - v3), zD x, r9, (zN x) - 1, (zL x) - ((Int32.toInt64 v3) * (Int32.toInt64 ((zD x) (Int32.toNatClampNeg r1)))))))))))))))))
set_option maxHeartbeats 4000000 in
set_option maxRecDepth 100000 in
theorem kX0_releaseOldest (l : Launch) (D : va_G) (I O : ClassId) (a : CA) (sz : Nat) (x : Col) (p1 : Int32) (Q : Int32 → Col → Prop) (hw : qX0_releaseOldest x p1 Q) : Met l yX0_releaseOldest wsX0_releaseOldest rX0_releaseOldest (mPc D I O [.ref a.1, .int p1] (colB I a x) sz) (va_Qi (fun r (u : Col) => Q r u) (mB D (va_A (colB I a x) sz) (fun u => colB I a u)) (va_A (colB I a x) sz)) 0 0 (va_A (colB I a x) sz) := by
  refine m_start (by decide) rfl (Nat.le_of_ble_eq_true rfl) (fun p e s m below meth c ls H locs hx hb hr hml hts hown hlocks hnm hK hP hD hA hS hl => ?_)
  have hown : s.vm.findClass RX0 = some m.cls := hown
  have hl : lv_has ls 4 [(0, .ref a.1), (1, .int p1)] := hl
  have hiX0 : ∀ w ∈ wsX00, w ∈ wsX0_releaseOldest := by decide +kernel
  have f0 := hts (.fieldLink RX0 9 "WellControl$Column" "volumes" "[I") (by decide +kernel)
  have f1 := hts (.methodLink RX0 60 Lib.Math.min.name) (by decide +kernel)
  have f2 := hts (.static Lib.Math.min.name) (by decide +kernel)
  have f3 := hts (.initialized "java/lang/Math") (by decide +kernel)
  have f4 := hts (.code Lib.Math.min.name Lib.Math.min.code 2 (some .int)) (by decide +kernel)
  have f5 := hts (.fieldLink RX0 29 "WellControl$Column" "load" "J") (by decide +kernel)
  have f6 := hts (.fieldLink RX0 15 "WellControl$Column" "densities" "[I") (by decide +kernel)
  have f7 := hts (.fieldLink RX0 22 "WellControl$Column" "oldest" "I") (by decide +kernel)
  have f8 := hts (.fieldLink RX0 26 "WellControl$Column" "count" "I") (by decide +kernel)
  unfold qX0_releaseOldest at hw
  refine lv_aload_n hx hb dX0_releaseOldest_0 rfl (lv_at hl 0 rfl) ?_
  refine lv_iconst (v := 0) hx hb dX0_releaseOldest_1 (by decide) ?_
  refine mw_i (mv_V (As := [.int 0]) (rest := []) ⟨hx, hb, hml, hown, hts⟩ (kX0_placeOfAge l D I O a H.size x 0 _ hw) (cwV 1 hts gX0_releaseOldest_X0_placeOfAge rfl rfl rfl hdVX0_placeOfAge ⟨(Nat.le_of_ble_eq_true rfl), (Nat.le_of_ble_eq_true rfl)⟩) hK hP hD 0 0 rfl rfl rfl rfl hl.1 rfl (Nat.le_of_ble_eq_true rfl) dX0_releaseOldest_2 ⟨(Nat.le_of_ble_eq_true rfl), (Nat.le_of_ble_eq_true rfl)⟩) hP hD hS hA (fun r1 _ H locs hw hP hD hS => ?_)
  have hP : va_P D vwCl (colB I a x) H := hP
  have hD : va_D (va_A (colB I a x) sz) (colB I a x) := hD
  refine lv_istore_n (lv' := [(2, .int r1), (0, .ref a.1), (1, .int p1)]) hx hb dX0_releaseOldest_5 rfl hl (by decide) rfl (fun ls hl => ?_)
  refine lv_iload_n hx hb dX0_releaseOldest_6 rfl (lv_at hl 2 rfl) ?_
  refine lv_aload_n hx hb dX0_releaseOldest_7 rfl (lv_at hl 1 rfl) ?_
  refine va_get (ci := 0) (v := .ref a.2.1) (C := RX0) (T := TX0) (N := 6) hx hb hts hiX0 hown hK.1 hP 0 rfl rfl 1 (by decide) f0 (fun _ h9 => h9) rfl dX0_releaseOldest_8 ?_
  refine lv_iload_n hx hb dX0_releaseOldest_11 rfl (lv_at hl 0 rfl) ?_
  obtain ⟨h2, hw⟩ := hw
  refine va_iald hx hb hK.1 hP 1 0 rfl rfl h2 dX0_releaseOldest_12 ?_
  refine va_mmin hx hb (hml.trans hl.1.symm) hown f1 f2 f3 f4 (Nat.le_of_ble_eq_true rfl) (Nat.le_of_ble_eq_true rfl) (Nat.le_of_ble_eq_true rfl) (Nat.le_of_ble_eq_true rfl) dX0_releaseOldest_13 ?_
  refine lv_topi (fun v3 ev3 => ?_)
  have hw := hw v3 ev3
  refine lv_istore_n (lv' := [(3, .int v3), (2, .int r1), (0, .ref a.1), (1, .int p1)]) hx hb dX0_releaseOldest_16 rfl hl (by decide) rfl (fun ls hl => ?_)
  refine lv_aload_n hx hb dX0_releaseOldest_17 rfl (lv_at hl 2 rfl) ?_
  refine va_get (ci := 0) (v := .ref a.2.1) (C := RX0) (T := TX0) (N := 6) hx hb hts hiX0 hown hK.1 hP 0 rfl rfl 1 (by decide) f0 (fun _ h9 => h9) rfl dX0_releaseOldest_18 ?_
  refine lv_iload_n hx hb dX0_releaseOldest_21 rfl (lv_at hl 1 rfl) ?_
  refine lv_dup2_11 hx hb dX0_releaseOldest_22 rfl rfl ?_
  obtain ⟨h4, hw⟩ := hw
  refine va_iald hx hb hK.1 hP 1 0 rfl rfl h4 dX0_releaseOldest_23 ?_
  refine lv_iload_n hx hb dX0_releaseOldest_24 rfl (lv_at hl 0 rfl) ?_
  refine lv_isub hx hb dX0_releaseOldest_25 ?_
  obtain ⟨h5, hw⟩ := hw
  refine va_iast hx hb hK.1 hP hD hS 1 0 rfl rfl h5 dX0_releaseOldest_26 (fun H locs hP hD hS => ?_)
  have hP : va_P D vwCl (colB I a (zF x, upd (zV x) (Int32.toNatClampNeg r1) (((zV x) (Int32.toNatClampNeg r1)) - v3), zD x, zO x, zN x, zL x)) H := hP
  have hD : va_D (va_A (colB I a x) sz) (colB I a (zF x, upd (zV x) (Int32.toNatClampNeg r1) (((zV x) (Int32.toNatClampNeg r1)) - v3), zD x, zO x, zN x, zL x)) := hD
  refine lv_aload_n hx hb dX0_releaseOldest_27 rfl (lv_at hl 2 rfl) ?_
  refine lv_dup hx hb dX0_releaseOldest_28 rfl ?_
  refine va_get (ci := 0) (v := .long (zL x)) (C := RX0) (T := TX0) (N := 6) hx hb hts hiX0 hown hK.1 hP 0 rfl rfl 5 (by decide) f5 (fun _ h9 => h9) rfl dX0_releaseOldest_29 ?_
  refine lv_iload_n hx hb dX0_releaseOldest_32 rfl (lv_at hl 0 rfl) ?_
  refine lv_i2l (v := Int32.toInt64 v3) hx hb dX0_releaseOldest_33 rfl ?_
  refine lv_aload_n hx hb dX0_releaseOldest_34 rfl (lv_at hl 2 rfl) ?_
  refine va_get (ci := 0) (v := .ref a.2.2) (C := RX0) (T := TX0) (N := 6) hx hb hts hiX0 hown hK.1 hP 0 rfl rfl 2 (by decide) f6 (fun _ h9 => h9) rfl dX0_releaseOldest_35 ?_
  refine lv_iload_n hx hb dX0_releaseOldest_38 rfl (lv_at hl 1 rfl) ?_
  obtain ⟨h6, hw⟩ := hw
  refine va_iald hx hb hK.1 hP 2 0 rfl rfl h6 dX0_releaseOldest_39 ?_
  refine lv_i2l (v := Int32.toInt64 ((zD x) (Int32.toNatClampNeg r1))) hx hb dX0_releaseOldest_40 rfl ?_
  refine lv_lmul hx hb dX0_releaseOldest_41 ?_
  refine lv_lsub hx hb dX0_releaseOldest_42 ?_
  refine va_put (ci := 0) (v := .long ((zL x) - ((Int32.toInt64 v3) * (Int32.toInt64 ((zD x) (Int32.toNatClampNeg r1)))))) (ty := .long) (C := RX0) (T := TX0) (N := 6) hx hb hts hiX0 tyX0 tyX0_ok nmX0 hown hK.1 hP hD hS 0 rfl rfl 5 (by decide) f5 (fun _ h9 => h9) rfl (by decide +kernel) rfl rfl (Nat.le_of_ble_eq_true rfl) dX0_releaseOldest_43 (fun H locs hP hD hS => ?_)
  have hP : va_P D vwCl (colB I a (zF x, upd (zV x) (Int32.toNatClampNeg r1) (((zV x) (Int32.toNatClampNeg r1)) - v3), zD x, zO x, zN x, (zL x) - ((Int32.toInt64 v3) * (Int32.toInt64 ((zD x) (Int32.toNatClampNeg r1)))))) H := hP
  have hD : va_D (va_A (colB I a x) sz) (colB I a (zF x, upd (zV x) (Int32.toNatClampNeg r1) (((zV x) (Int32.toNatClampNeg r1)) - v3), zD x, zO x, zN x, (zL x) - ((Int32.toInt64 v3) * (Int32.toInt64 ((zD x) (Int32.toNatClampNeg r1)))))) := hD
  refine lv_aload_n hx hb dX0_releaseOldest_46 rfl (lv_at hl 2 rfl) ?_
  refine va_get (ci := 0) (v := .ref a.2.1) (C := RX0) (T := TX0) (N := 6) hx hb hts hiX0 hown hK.1 hP 0 rfl rfl 1 (by decide) f0 (fun _ h9 => h9) rfl dX0_releaseOldest_47 ?_
  refine lv_iload_n hx hb dX0_releaseOldest_50 rfl (lv_at hl 1 rfl) ?_
  obtain ⟨h7, hw⟩ := hw
  refine va_iald hx hb hK.1 hP 1 0 rfl rfl h7 dX0_releaseOldest_51 ?_
  refine lv_if_ne (tgt := 74) hx hb dX0_releaseOldest_52 (by decide) (fun c8 => ?_) (fun c8 => ?_)
  · have hw := hw.1 c8
    refine lv_iload_n hx hb dX0_releaseOldest_74 rfl (lv_at hl 0 rfl) ?_
    exact m_iret (u := (zF x, upd (zV x) (Int32.toNatClampNeg r1) (((zV x) (Int32.toNatClampNeg r1)) - v3), zD x, zO x, zN x, (zL x) - ((Int32.toInt64 v3) * (Int32.toInt64 ((zD x) (Int32.toNatClampNeg r1)))))) hx hb hr hlocks hS hP hD dX0_releaseOldest_75 hw
  · have hw := hw.2 c8
    refine lv_aload_n hx hb dX0_releaseOldest_55 rfl (lv_at hl 2 rfl) ?_
    refine lv_aload_n hx hb dX0_releaseOldest_56 rfl (lv_at hl 2 rfl) ?_
    refine lv_iconst (v := 1) hx hb dX0_releaseOldest_57 (by decide) ?_
    refine mw_i (mv_V (As := [.int 1]) (rest := [.ref a.1]) ⟨hx, hb, hml, hown, hts⟩ (kX0_placeOfAge l D I O a H.size (zF x, upd (zV x) (Int32.toNatClampNeg r1) (((zV x) (Int32.toNatClampNeg r1)) - v3), zD x, zO x, zN x, (zL x) - ((Int32.toInt64 v3) * (Int32.toInt64 ((zD x) (Int32.toNatClampNeg r1))))) 1 _ hw) (cwV 1 hts gX0_releaseOldest_X0_placeOfAge rfl rfl rfl hdVX0_placeOfAge ⟨(Nat.le_of_ble_eq_true rfl), (Nat.le_of_ble_eq_true rfl)⟩) hK hP hD 0 0 rfl rfl rfl rfl hl.1 rfl (Nat.le_of_ble_eq_true rfl) dX0_releaseOldest_58 ⟨(Nat.le_of_ble_eq_true rfl), (Nat.le_of_ble_eq_true rfl)⟩) hP hD hS hA (fun r9 _ H locs hw hP hD hS => ?_)
    have hP : va_P D vwCl (colB I a (zF x, upd (zV x) (Int32.toNatClampNeg r1) (((zV x) (Int32.toNatClampNeg r1)) - v3), zD x, zO x, zN x, (zL x) - ((Int32.toInt64 v3) * (Int32.toInt64 ((zD x) (Int32.toNatClampNeg r1)))))) H := hP
    have hD : va_D (va_A (colB I a x) sz) (colB I a (zF x, upd (zV x) (Int32.toNatClampNeg r1) (((zV x) (Int32.toNatClampNeg r1)) - v3), zD x, zO x, zN x, (zL x) - ((Int32.toInt64 v3) * (Int32.toInt64 ((zD x) (Int32.toNatClampNeg r1)))))) := hD
    refine va_put (ci := 0) (v := .int r9) (ty := .int) (C := RX0) (T := TX0) (N := 6) hx hb hts hiX0 tyX0 tyX0_ok nmX0 hown hK.1 hP hD hS 0 rfl rfl 3 (by decide) f7 (fun _ h9 => h9) rfl (by decide +kernel) rfl rfl (Nat.le_of_ble_eq_true rfl) dX0_releaseOldest_61 (fun H locs hP hD hS => ?_)
    have hP : va_P D vwCl (colB I a (zF x, upd (zV x) (Int32.toNatClampNeg r1) (((zV x) (Int32.toNatClampNeg r1)) - v3), zD x, r9, zN x, (zL x) - ((Int32.toInt64 v3) * (Int32.toInt64 ((zD x) (Int32.toNatClampNeg r1)))))) H := hP
    have hD : va_D (va_A (colB I a x) sz) (colB I a (zF x, upd (zV x) (Int32.toNatClampNeg r1) (((zV x) (Int32.toNatClampNeg r1)) - v3), zD x, r9, zN x, (zL x) - ((Int32.toInt64 v3) * (Int32.toInt64 ((zD x) (Int32.toNatClampNeg r1)))))) := hD
    refine lv_aload_n hx hb dX0_releaseOldest_64 rfl (lv_at hl 2 rfl) ?_
    refine lv_dup hx hb dX0_releaseOldest_65 rfl ?_
    refine va_get (ci := 0) (v := .int (zN x)) (C := RX0) (T := TX0) (N := 6) hx hb hts hiX0 hown hK.1 hP 0 rfl rfl 4 (by decide) f8 (fun _ h9 => h9) rfl dX0_releaseOldest_66 ?_
    refine lv_iconst (v := 1) hx hb dX0_releaseOldest_69 (by decide) ?_
    refine lv_isub hx hb dX0_releaseOldest_70 ?_
    refine va_put (ci := 0) (v := .int ((zN x) - 1)) (ty := .int) (C := RX0) (T := TX0) (N := 6) hx hb hts hiX0 tyX0 tyX0_ok nmX0 hown hK.1 hP hD hS 0 rfl rfl 4 (by decide) f8 (fun _ h9 => h9) rfl (by decide +kernel) rfl rfl (Nat.le_of_ble_eq_true rfl) dX0_releaseOldest_71 (fun H locs hP hD hS => ?_)
    have hP : va_P D vwCl (colB I a (zF x, upd (zV x) (Int32.toNatClampNeg r1) (((zV x) (Int32.toNatClampNeg r1)) - v3), zD x, r9, (zN x) - 1, (zL x) - ((Int32.toInt64 v3) * (Int32.toInt64 ((zD x) (Int32.toNatClampNeg r1)))))) H := hP
    have hD : va_D (va_A (colB I a x) sz) (colB I a (zF x, upd (zV x) (Int32.toNatClampNeg r1) (((zV x) (Int32.toNatClampNeg r1)) - v3), zD x, r9, (zN x) - 1, (zL x) - ((Int32.toInt64 v3) * (Int32.toInt64 ((zD x) (Int32.toNatClampNeg r1)))))) := hD
    refine lv_iload_n hx hb dX0_releaseOldest_74 rfl (lv_at hl 0 rfl) ?_
    exact m_iret (u := (zF x, upd (zV x) (Int32.toNatClampNeg r1) (((zV x) (Int32.toNatClampNeg r1)) - v3), zD x, r9, (zN x) - 1, (zL x) - ((Int32.toInt64 v3) * (Int32.toInt64 ((zD x) (Int32.toNatClampNeg r1)))))) hx hb hr hlocks hS hP hD dX0_releaseOldest_75 hw
end
section
def qX0_copyFrom_L6  (K5 : Int32 → Col → Prop) : Nat → Int32 → Col → Prop
  | 0, _, _ => False
  | n7 + 1, i3, w4 => qX0_copyFrom_L6 K5 n7 i3 w4
def qX0_copyFrom (z : Col) (x : Col) (Q : Col → Prop) : Prop := (qX0_clear x (fun u1 => (∃ n2, qX0_copyFrom_L6 (fun i3 w4 => Q w4) n2 0 u1)))
set_option maxHeartbeats 4000000 in
set_option maxRecDepth 100000 in
theorem kX0_copyFrom (l : Launch) (D : va_G) (I O : ClassId) (b : CA) (a : CA) (sz : Nat) (z : Col) (x : Col) (Q : Col → Prop) (hw : qX0_copyFrom z x Q) : Met l yX0_copyFrom wsX0_copyFrom rX0_copyFrom (mPc D I O [.ref a.1, .ref b.1] (colB I b z ++ colB I a x) sz) (va_Qv (fun (u : Col) => Q u) (mB D (va_A (colB I b z ++ colB I a x) sz) (fun u => colB I b z ++ colB I a u)) (va_A (colB I b z ++ colB I a x) sz)) 0 0 (va_A (colB I b z ++ colB I a x) sz) := by
  refine m_start (by decide) rfl (Nat.le_of_ble_eq_true rfl) (fun p e s m below meth c ls H locs hx hb hr hml hts hown hlocks hnm hK hP hD hA hS hl => ?_)
  have hown : s.vm.findClass RX0 = some m.cls := hown
  have hl : lv_has ls 4 [(0, .ref a.1), (1, .ref b.1)] := hl
  unfold qX0_copyFrom at hw
  refine lv_aload_n hx hb dX0_copyFrom_0 rfl (lv_at hl 0 rfl) ?_
  have hPc := va_P.mid (X := colB I b z) (wc := colB I a x) (Y := []) hP
  have hDc := va_D.mid (X := colB I b z) (wc := colB I a x) (Y := []) hD
  refine mc_v (colB I b z) ([]) (mv_V (As := []) (rest := []) ⟨hx, hb, hml, hown, hts⟩ (kX0_clear l D I O a H.size x _ hw) (cwV 0 hts gX0_copyFrom_X0_clear rfl rfl rfl hdVX0_clear ⟨(Nat.le_of_ble_eq_true rfl), (Nat.le_of_ble_eq_true rfl)⟩) hK hPc hDc 0 0 rfl rfl rfl rfl hl.1 rfl (Nat.le_of_ble_eq_true rfl) dX0_copyFrom_1 ⟨(Nat.le_of_ble_eq_true rfl), (Nat.le_of_ble_eq_true rfl)⟩) hP hD hS hA (fun u1 H locs hw hP hD hS => ?_)
  have hP : va_P D vwCl (colB I b z ++ colB I a u1) H := hP
  have hD : va_D (va_A (colB I b z ++ colB I a x) sz) (colB I b z ++ colB I a u1) := hD
  refine lv_iconst (v := 0) hx hb dX0_copyFrom_4 (by decide) ?_
  refine lv_istore_n (lv' := [(2, .int 0), (0, .ref a.1), (1, .ref b.1)]) hx hb dX0_copyFrom_5 rfl hl (by decide) rfl (fun ls hl => ?_)
  obtain ⟨n2, hw⟩ := hw
  have ky8 : ∀ (K5 : Int32 → Col → Prop) (_ : ∀ (i3 : Int32) (w4 : Col) (H : Heap) (locs : List Loc) (ls : Array Slot), va_P D vwCl (colB I b z ++ colB I a w4) H → va_D (va_A (colB I b z ++ colB I a x) sz) (colB I b z ++ colB I a w4) → va_S (va_A (colB I b z ++ colB I a x) sz) s.heap H locs → lv_has ls 4 [(2, .int i3), (0, .ref a.1), (1, .ref b.1)] → K5 i3 w4 → W p l e rX0_copyFrom s m ([.ref a.1, .ref b.1] : List Value).toArray below meth c H locs 0 0 (MQ below (va_Qv (fun (u : Col) => Q u) (mB D (va_A (colB I b z ++ colB I a x) sz) (fun u => colB I b z ++ colB I a u)) (va_A (colB I b z ++ colB I a x) sz)) ([.ref a.1, .ref b.1] : List Value).toArray s 0 0 (va_A (colB I b z ++ colB I a x) sz)) (F0 m 42 ls [])) (n7 : Nat) (i3 : Int32) (w4 : Col) (H : Heap) (locs : List Loc) (ls : Array Slot), va_P D vwCl (colB I b z ++ colB I a w4) H → va_D (va_A (colB I b z ++ colB I a x) sz) (colB I b z ++ colB I a w4) → va_S (va_A (colB I b z ++ colB I a x) sz) s.heap H locs → lv_has ls 4 [(2, .int i3), (0, .ref a.1), (1, .ref b.1)] → qX0_copyFrom_L6 K5 n7 i3 w4 → W p l e rX0_copyFrom s m ([.ref a.1, .ref b.1] : List Value).toArray below meth c H locs 0 0 (MQ below (va_Qv (fun (u : Col) => Q u) (mB D (va_A (colB I b z ++ colB I a x) sz) (fun u => colB I b z ++ colB I a u)) (va_A (colB I b z ++ colB I a x) sz)) ([.ref a.1, .ref b.1] : List Value).toArray s 0 0 (va_A (colB I b z ++ colB I a x) sz)) (F0 m 6 ls []) := by
    intro K5 hx6 n7
    induction n7 with
    | zero =>
      intro i3 w4 H locs ls hP hD hS hl hw
      exact hw.elim
    | succ n7 ihn7 =>
      intro i3 w4 H locs ls hP hD hS hl hw
      unfold qX0_copyFrom_L6 at hw
      exact ihn7 i3 w4 H locs ls hP hD hS (lv_sub hl [0, 1, 2] rfl) hw
  refine ky8 _ (fun i3 w4 H locs ls hP hD hS hl hw => ?_) n2 0 u1 H locs ls hP hD hS (lv_sub hl [0, 1, 2] rfl) hw
  exact m_vret (u := w4) hx hb hr hlocks hS hP hD dX0_copyFrom_42 hw
def qX0_release_L7  (K6 : Int32 → Int32 → Col → Prop) : Nat → Int32 → Int32 → Col → Prop
  | 0, _, _, _ => False
  | n8 + 1, i3, i4, w5 => qX0_release_L7 K6 n8 i3 i4 w5
def qX0_release (x : Col) (p1 : Int32) (Q : Col → Prop) : Prop := (∀ v1 : Int32, v1 = zN x → (∃ n2, qX0_release_L7 (fun i3 i4 w5 => Q w5) n2 v1 p1 x))
set_option maxHeartbeats 4000000 in
set_option maxRecDepth 100000 in
theorem kX0_release (l : Launch) (D : va_G) (I O : ClassId) (a : CA) (sz : Nat) (x : Col) (p1 : Int32) (Q : Col → Prop) (hw : qX0_release x p1 Q) : Met l yX0_release wsX0_release rX0_release (mPc D I O [.ref a.1, .int p1] (colB I a x) sz) (va_Qv (fun (u : Col) => Q u) (mB D (va_A (colB I a x) sz) (fun u => colB I a u)) (va_A (colB I a x) sz)) 0 0 (va_A (colB I a x) sz) := by
  refine m_start (by decide) rfl (Nat.le_of_ble_eq_true rfl) (fun p e s m below meth c ls H locs hx hb hr hml hts hown hlocks hnm hK hP hD hA hS hl => ?_)
  have hown : s.vm.findClass RX0 = some m.cls := hown
  have hl : lv_has ls 4 [(0, .ref a.1), (1, .int p1)] := hl
  have hiX0 : ∀ w ∈ wsX00, w ∈ wsX0_release := by decide +kernel
  have f0 := hts (.fieldLink RX0 26 "WellControl$Column" "count" "I") (by decide +kernel)
  unfold qX0_release at hw
  refine lv_iload_n hx hb dX0_release_0 rfl (lv_at hl 1 rfl) ?_
  refine lv_istore_n (lv' := [(2, .int p1), (0, .ref a.1), (1, .int p1)]) hx hb dX0_release_1 rfl hl (by decide) rfl (fun ls hl => ?_)
  refine lv_aload_n hx hb dX0_release_2 rfl (lv_at hl 1 rfl) ?_
  refine va_get (ci := 0) (v := .int (zN x)) (C := RX0) (T := TX0) (N := 6) hx hb hts hiX0 hown hK.1 hP 0 rfl rfl 4 (by decide) f0 (fun _ h9 => h9) rfl dX0_release_3 ?_
  refine lv_topi (fun v1 ev1 => ?_)
  have hw := hw v1 ev1
  refine lv_istore_n (lv' := [(3, .int v1), (2, .int p1), (0, .ref a.1), (1, .int p1)]) hx hb dX0_release_6 rfl hl (by decide) rfl (fun ls hl => ?_)
  obtain ⟨n2, hw⟩ := hw
  have ky9 : ∀ (K6 : Int32 → Int32 → Col → Prop) (_ : ∀ (i3 : Int32) (i4 : Int32) (w5 : Col) (H : Heap) (locs : List Loc) (ls : Array Slot), va_P D vwCl (colB I a w5) H → va_D (va_A (colB I a x) sz) (colB I a w5) → va_S (va_A (colB I a x) sz) s.heap H locs → lv_has ls 4 [(3, .int i3), (2, .int i4), (0, .ref a.1), (1, .int p1)] → K6 i3 i4 w5 → W p l e rX0_release s m ([.ref a.1, .int p1] : List Value).toArray below meth c H locs 0 0 (MQ below (va_Qv (fun (u : Col) => Q u) (mB D (va_A (colB I a x) sz) (fun u => colB I a u)) (va_A (colB I a x) sz)) ([.ref a.1, .int p1] : List Value).toArray s 0 0 (va_A (colB I a x) sz)) (F0 m 29 ls [])) (n8 : Nat) (i3 : Int32) (i4 : Int32) (w5 : Col) (H : Heap) (locs : List Loc) (ls : Array Slot), va_P D vwCl (colB I a w5) H → va_D (va_A (colB I a x) sz) (colB I a w5) → va_S (va_A (colB I a x) sz) s.heap H locs → lv_has ls 4 [(3, .int i3), (2, .int i4), (0, .ref a.1), (1, .int p1)] → qX0_release_L7 K6 n8 i3 i4 w5 → W p l e rX0_release s m ([.ref a.1, .int p1] : List Value).toArray below meth c H locs 0 0 (MQ below (va_Qv (fun (u : Col) => Q u) (mB D (va_A (colB I a x) sz) (fun u => colB I a u)) (va_A (colB I a x) sz)) ([.ref a.1, .int p1] : List Value).toArray s 0 0 (va_A (colB I a x) sz)) (F0 m 7 ls []) := by
    intro K6 hx7 n8
    induction n8 with
    | zero =>
      intro i3 i4 w5 H locs ls hP hD hS hl hw
      exact hw.elim
    | succ n8 ihn8 =>
      intro i3 i4 w5 H locs ls hP hD hS hl hw
      unfold qX0_release_L7 at hw
      exact ihn8 i3 i4 w5 H locs ls hP hD hS (lv_sub hl [0, 1, 2, 3] rfl) hw
  refine ky9 _ (fun i3 i4 w5 H locs ls hP hD hS hl hw => ?_) n2 v1 p1 x H locs ls hP hD hS (lv_sub hl [0, 1, 2, 3] rfl) hw
  exact m_vret (u := w5) hx hb hr hlocks hS hP hD dX0_release_29 hw
def qX0_releaseInto_L8  (K7 : Int32 → Int32 → Col → Col → Prop) : Nat → Int32 → Int32 → Col → Col → Prop
  | 0, _, _, _, _ => False
  | n9 + 1, i3, i4, w5, w6 => qX0_releaseInto_L8 K7 n9 i3 i4 w5 w6
def qX0_releaseInto (x : Col) (z : Col) (p2 : Int32) (Q : (Col × Col) → Prop) : Prop := (∀ v1 : Int32, v1 = zN x → (∃ n2, qX0_releaseInto_L8 (fun i3 i4 w5 w6 => Q (w5, w6)) n2 v1 p2 x z))
set_option maxHeartbeats 4000000 in
set_option maxRecDepth 100000 in
theorem kX0_releaseInto (l : Launch) (D : va_G) (I O : ClassId) (a : CA) (b : CA) (sz : Nat) (x : Col) (z : Col) (p2 : Int32) (Q : (Col × Col) → Prop) (hw : qX0_releaseInto x z p2 Q) : Met l yX0_releaseInto wsX0_releaseInto rX0_releaseInto (mPc D I O [.ref a.1, .ref b.1, .int p2] (colB I a x ++ colB I b z) sz) (va_Qv (fun (u : Col × Col) => Q u) (mB D (va_A (colB I a x ++ colB I b z) sz) (fun u => colB I a u.1 ++ colB I b u.2)) (va_A (colB I a x ++ colB I b z) sz)) 0 0 (va_A (colB I a x ++ colB I b z) sz) := by
  refine m_start (by decide) rfl (Nat.le_of_ble_eq_true rfl) (fun p e s m below meth c ls H locs hx hb hr hml hts hown hlocks hnm hK hP hD hA hS hl => ?_)
  have hown : s.vm.findClass RX0 = some m.cls := hown
  have hl : lv_has ls 7 [(0, .ref a.1), (1, .ref b.1), (2, .int p2)] := hl
  have hiX0 : ∀ w ∈ wsX00, w ∈ wsX0_releaseInto := by decide +kernel
  have f0 := hts (.fieldLink RX0 26 "WellControl$Column" "count" "I") (by decide +kernel)
  unfold qX0_releaseInto at hw
  refine lv_iload_n hx hb dX0_releaseInto_0 rfl (lv_at hl 2 rfl) ?_
  refine lv_istore_n (lv' := [(3, .int p2), (0, .ref a.1), (1, .ref b.1), (2, .int p2)]) hx hb dX0_releaseInto_1 rfl hl (by decide) rfl (fun ls hl => ?_)
  refine lv_aload_n hx hb dX0_releaseInto_2 rfl (lv_at hl 1 rfl) ?_
  refine va_get (ci := 0) (v := .int (zN x)) (C := RX0) (T := TX0) (N := 6) hx hb hts hiX0 hown hK.1 hP 0 rfl rfl 4 (by decide) f0 (fun _ h9 => h9) rfl dX0_releaseInto_3 ?_
  refine lv_topi (fun v1 ev1 => ?_)
  have hw := hw v1 ev1
  refine lv_istore (lv' := [(4, .int v1), (3, .int p2), (0, .ref a.1), (1, .ref b.1), (2, .int p2)]) hx hb dX0_releaseInto_6 hl (by decide) rfl (fun ls hl => ?_)
  obtain ⟨n2, hw⟩ := hw
  have ky10 : ∀ (K7 : Int32 → Int32 → Col → Col → Prop) (_ : ∀ (i3 : Int32) (i4 : Int32) (w5 : Col) (w6 : Col) (H : Heap) (locs : List Loc) (ls : Array Slot), va_P D vwCl (colB I a w5 ++ colB I b w6) H → va_D (va_A (colB I a x ++ colB I b z) sz) (colB I a w5 ++ colB I b w6) → va_S (va_A (colB I a x ++ colB I b z) sz) s.heap H locs → lv_has ls 7 [(4, .int i3), (3, .int i4), (0, .ref a.1), (1, .ref b.1), (2, .int p2)] → K7 i3 i4 w5 w6 → W p l e rX0_releaseInto s m ([.ref a.1, .ref b.1, .int p2] : List Value).toArray below meth c H locs 0 0 (MQ below (va_Qv (fun (u : Col × Col) => Q u) (mB D (va_A (colB I a x ++ colB I b z) sz) (fun u => colB I a u.1 ++ colB I b u.2)) (va_A (colB I a x ++ colB I b z) sz)) ([.ref a.1, .ref b.1, .int p2] : List Value).toArray s 0 0 (va_A (colB I a x ++ colB I b z) sz)) (F0 m 55 ls [])) (n9 : Nat) (i3 : Int32) (i4 : Int32) (w5 : Col) (w6 : Col) (H : Heap) (locs : List Loc) (ls : Array Slot), va_P D vwCl (colB I a w5 ++ colB I b w6) H → va_D (va_A (colB I a x ++ colB I b z) sz) (colB I a w5 ++ colB I b w6) → va_S (va_A (colB I a x ++ colB I b z) sz) s.heap H locs → lv_has ls 7 [(4, .int i3), (3, .int i4), (0, .ref a.1), (1, .ref b.1), (2, .int p2)] → qX0_releaseInto_L8 K7 n9 i3 i4 w5 w6 → W p l e rX0_releaseInto s m ([.ref a.1, .ref b.1, .int p2] : List Value).toArray below meth c H locs 0 0 (MQ below (va_Qv (fun (u : Col × Col) => Q u) (mB D (va_A (colB I a x ++ colB I b z) sz) (fun u => colB I a u.1 ++ colB I b u.2)) (va_A (colB I a x ++ colB I b z) sz)) ([.ref a.1, .ref b.1, .int p2] : List Value).toArray s 0 0 (va_A (colB I a x ++ colB I b z) sz)) (F0 m 8 ls []) := by
    intro K7 hx8 n9
    induction n9 with
    | zero =>
      intro i3 i4 w5 w6 H locs ls hP hD hS hl hw
      exact hw.elim
    | succ n9 ihn9 =>
      intro i3 i4 w5 w6 H locs ls hP hD hS hl hw
      unfold qX0_releaseInto_L8 at hw
      exact ihn9 i3 i4 w5 w6 H locs ls hP hD hS (lv_sub hl [0, 1, 2, 3, 4] rfl) hw
  refine ky10 _ (fun i3 i4 w5 w6 H locs ls hP hD hS hl hw => ?_) n2 v1 p2 x z H locs ls hP hD hS (lv_sub hl [0, 1, 2, 3, 4] rfl) hw
  exact m_vret (u := (w5, w6)) hx hb hr hlocks hS hP hD dX0_releaseInto_55 hw
def qX0_loadAbove_L8  (K5 : Int32 → Int32 → Int64 → Prop) : Nat → Int32 → Int32 → Int64 → Prop
  | 0, _, _, _ => False
  | n7 + 1, i2, i3, i4 => qX0_loadAbove_L8 K5 n7 i2 i3 i4
def qX0_loadAbove (x : Col) (p1 : Int32) (Q : Int64 → Prop) : Prop := (∃ n1, qX0_loadAbove_L8 (fun i2 i3 i4 => Q i4) n1 0 p1 0)
set_option maxHeartbeats 4000000 in
set_option maxRecDepth 100000 in
theorem kX0_loadAbove (l : Launch) (D : va_G) (I O : ClassId) (a : CA) (sz : Nat) (x : Col) (p1 : Int32) (Q : Int64 → Prop) (hw : qX0_loadAbove x p1 Q) : Met l yX0_loadAbove wsX0_loadAbove rX0_loadAbove (mPc D I O [.ref a.1, .int p1] (colB I a x) sz) (va_Ql (fun r (_ : Unit) => Q r) (mB D (va_A (colB I a x) sz) (fun _ => colB I a x)) (va_A (colB I a x) sz)) 0 0 (va_A (colB I a x) sz) := by
  refine m_start (by decide) rfl (Nat.le_of_ble_eq_true rfl) (fun p e s m below meth c ls H locs hx hb hr hml hts hown hlocks hnm hK hP hD hA hS hl => ?_)
  have hown : s.vm.findClass RX0 = some m.cls := hown
  have hl : lv_has ls 8 [(0, .ref a.1), (1, .int p1)] := hl
  unfold qX0_loadAbove at hw
  refine lv_lconst (v := 0) hx hb dX0_loadAbove_0 (by decide) ?_
  refine lv_lstore_n (lv' := [(2, .long 0), (0, .ref a.1), (1, .int p1)]) hx hb dX0_loadAbove_1 rfl hl (by decide) rfl (fun ls hl => ?_)
  refine lv_iload_n hx hb dX0_loadAbove_2 rfl (lv_at hl 2 rfl) ?_
  refine lv_istore (lv' := [(4, .int p1), (2, .long 0), (0, .ref a.1), (1, .int p1)]) hx hb dX0_loadAbove_3 hl (by decide) rfl (fun ls hl => ?_)
  refine lv_iconst (v := 0) hx hb dX0_loadAbove_5 (by decide) ?_
  refine lv_istore (lv' := [(5, .int 0), (4, .int p1), (2, .long 0), (0, .ref a.1), (1, .int p1)]) hx hb dX0_loadAbove_6 hl (by decide) rfl (fun ls hl => ?_)
  obtain ⟨n1, hw⟩ := hw
  have ky8 : ∀ (K5 : Int32 → Int32 → Int64 → Prop) (_ : ∀ (i2 : Int32) (i3 : Int32) (i4 : Int64) (H : Heap) (locs : List Loc) (ls : Array Slot), va_P D vwCl (colB I a x) H → va_D (va_A (colB I a x) sz) (colB I a x) → va_S (va_A (colB I a x) sz) s.heap H locs → lv_has ls 8 [(5, .int i2), (4, .int i3), (2, .long i4), (0, .ref a.1), (1, .int p1)] → K5 i2 i3 i4 → W p l e rX0_loadAbove s m ([.ref a.1, .int p1] : List Value).toArray below meth c H locs 0 0 (MQ below (va_Ql (fun r (_ : Unit) => Q r) (mB D (va_A (colB I a x) sz) (fun _ => colB I a x)) (va_A (colB I a x) sz)) ([.ref a.1, .int p1] : List Value).toArray s 0 0 (va_A (colB I a x) sz)) (F0 m 72 ls [])) (n7 : Nat) (i2 : Int32) (i3 : Int32) (i4 : Int64) (H : Heap) (locs : List Loc) (ls : Array Slot), va_P D vwCl (colB I a x) H → va_D (va_A (colB I a x) sz) (colB I a x) → va_S (va_A (colB I a x) sz) s.heap H locs → lv_has ls 8 [(5, .int i2), (4, .int i3), (2, .long i4), (0, .ref a.1), (1, .int p1)] → qX0_loadAbove_L8 K5 n7 i2 i3 i4 → W p l e rX0_loadAbove s m ([.ref a.1, .int p1] : List Value).toArray below meth c H locs 0 0 (MQ below (va_Ql (fun r (_ : Unit) => Q r) (mB D (va_A (colB I a x) sz) (fun _ => colB I a x)) (va_A (colB I a x) sz)) ([.ref a.1, .int p1] : List Value).toArray s 0 0 (va_A (colB I a x) sz)) (F0 m 8 ls []) := by
    intro K5 hx6 n7
    induction n7 with
    | zero =>
      intro i2 i3 i4 H locs ls hP hD hS hl hw
      exact hw.elim
    | succ n7 ihn7 =>
      intro i2 i3 i4 H locs ls hP hD hS hl hw
      unfold qX0_loadAbove_L8 at hw
      exact ihn7 i2 i3 i4 H locs ls hP hD hS (lv_sub hl [0, 1, 2, 3, 4] rfl) hw
  refine ky8 _ (fun i2 i3 i4 H locs ls hP hD hS hl hw => ?_) n1 0 p1 0 H locs ls hP hD hS (lv_sub hl [0, 1, 2, 3, 4] rfl) hw
  refine lv_lload_n hx hb dX0_loadAbove_72 rfl (lv_at hl 2 rfl) ?_
  exact m_lret (u := ()) hx hb hr hlocks hS hP hD dX0_loadAbove_73 hw
def qX2_mixed (p1 : Int64) (p2 : Int64) (Q : Int64 → Prop) : Prop := Q ((31 * p1) + p2)
set_option maxHeartbeats 4000000 in
set_option maxRecDepth 100000 in
theorem kX2_mixed (l : Launch) (D : va_G) (I O : ClassId) (sz : Nat) (p1 : Int64) (p2 : Int64) (Q : Int64 → Prop) (hw : qX2_mixed p1 p2 Q) : Met l yX2_mixed wsX2_mixed rX2_mixed (mPc D I O [.long p1, .long p2] ([]) sz) (va_Ql (fun r (_ : Unit) => Q r) (mB D (va_A ([]) sz) (fun _ => [])) (va_A ([]) sz)) 0 0 (va_A ([]) sz) := by
  refine m_start (by decide) rfl (Nat.le_of_ble_eq_true rfl) (fun p e s m below meth c ls H locs hx hb hr hml hts hown hlocks hnm hK hP hD hA hS hl => ?_)
  have hown : s.vm.findClass RX2 = some m.cls := hown
  have hl : lv_has ls 4 [(0, .long p1), (2, .long p2)] := hl
  have f0 := hts (.constantLong RX2 181 (31)) (by decide +kernel)
  unfold qX2_mixed at hw
  refine lv_ldc2 (v := 31) hx hb hown f0 dX2_mixed_0 ?_
  refine lv_lload_n hx hb dX2_mixed_3 rfl (lv_at hl 0 rfl) ?_
  refine lv_lmul hx hb dX2_mixed_4 ?_
  refine lv_lload_n hx hb dX2_mixed_5 rfl (lv_at hl 1 rfl) ?_
  refine lv_ladd hx hb dX2_mixed_6 ?_
  exact m_lret (u := ()) hx hb hr hlocks hS hP hD dX2_mixed_7 hw
def qX0_mixedLayers_L12  (K5 : Int32 → Int64 → Prop) : Nat → Int32 → Int64 → Prop
  | 0, _, _ => False
  | n7 + 1, i3, i4 => qX0_mixedLayers_L12 K5 n7 i3 i4
def qX0_mixedLayers (x : Col) (p1 : Int64) (Q : Int64 → Prop) : Prop := (qX2_mixed p1 (Int32.toInt64 (zN x)) (fun r1 => (∃ n2, qX0_mixedLayers_L12 (fun i3 i4 => Q i4) n2 0 r1)))
set_option maxHeartbeats 4000000 in
set_option maxRecDepth 100000 in
theorem kX0_mixedLayers (l : Launch) (D : va_G) (I O : ClassId) (a : CA) (sz : Nat) (x : Col) (p1 : Int64) (Q : Int64 → Prop) (hw : qX0_mixedLayers x p1 Q) : Met l yX0_mixedLayers wsX0_mixedLayers rX0_mixedLayers (mPc D I O [.ref a.1, .long p1] (colB I a x) sz) (va_Ql (fun r (_ : Unit) => Q r) (mB D (va_A (colB I a x) sz) (fun _ => colB I a x)) (va_A (colB I a x) sz)) 0 0 (va_A (colB I a x) sz) := by
  refine m_start (by decide) rfl (Nat.le_of_ble_eq_true rfl) (fun p e s m below meth c ls H locs hx hb hr hml hts hown hlocks hnm hK hP hD hA hS hl => ?_)
  have hown : s.vm.findClass RX0 = some m.cls := hown
  have hl : lv_has ls 5 [(0, .ref a.1), (1, .long p1)] := hl
  have hiX0 : ∀ w ∈ wsX00, w ∈ wsX0_mixedLayers := by decide +kernel
  have f0 := hts (.fieldLink RX0 26 "WellControl$Column" "count" "I") (by decide +kernel)
  have f1 := hts (.initialized RX2) (by decide +kernel)
  have f2 := hts (.static yX2_mixed) (by decide +kernel)
  unfold qX0_mixedLayers at hw
  refine lv_lload_n hx hb dX0_mixedLayers_0 rfl (lv_at hl 1 rfl) ?_
  refine lv_aload_n hx hb dX0_mixedLayers_1 rfl (lv_at hl 0 rfl) ?_
  refine va_get (ci := 0) (v := .int (zN x)) (C := RX0) (T := TX0) (N := 6) hx hb hts hiX0 hown hK.1 hP 0 rfl rfl 4 (by decide) f0 (fun _ h9 => h9) rfl dX0_mixedLayers_2 ?_
  refine lv_i2l (v := Int32.toInt64 (zN x)) hx hb dX0_mixedLayers_5 rfl ?_
  refine m0_l (mv_SN (As := [.long p1, .long (Int32.toInt64 (zN x))]) (rest := []) ⟨hx, hb, hml, hown, hts⟩ (kX2_mixed l D I O H.size p1 (Int32.toInt64 (zN x)) _ hw) (va_cnB 2 hts gX0_mixedLayers_X2_mixed_n63 rfl rfl rfl hK.2.1 f1 hdSX2_mixed ⟨(Nat.le_of_ble_eq_true rfl), (Nat.le_of_ble_eq_true rfl)⟩) f2 hK (nil_P (D := D) (H := H)) (nil_D (A := va_A (colB I a x) sz)) rfl hl.1 rfl (Nat.le_of_ble_eq_true rfl) dX0_mixedLayers_6 ⟨(Nat.le_of_ble_eq_true rfl), (Nat.le_of_ble_eq_true rfl)⟩) hP hD hS hA (fun r1 _ H locs hw hP hD hS => ?_)
  refine lv_lstore_n (lv' := [(1, .long r1), (0, .ref a.1)]) hx hb dX0_mixedLayers_9 rfl hl (by decide) rfl (fun ls hl => ?_)
  refine lv_iconst (v := 0) hx hb dX0_mixedLayers_10 (by decide) ?_
  refine lv_istore_n (lv' := [(3, .int 0), (1, .long r1), (0, .ref a.1)]) hx hb dX0_mixedLayers_11 rfl hl (by decide) rfl (fun ls hl => ?_)
  obtain ⟨n2, hw⟩ := hw
  have ky8 : ∀ (K5 : Int32 → Int64 → Prop) (_ : ∀ (i3 : Int32) (i4 : Int64) (H : Heap) (locs : List Loc) (ls : Array Slot), va_P D vwCl (colB I a x) H → va_D (va_A (colB I a x) sz) (colB I a x) → va_S (va_A (colB I a x) sz) s.heap H locs → lv_has ls 5 [(3, .int i3), (1, .long i4), (0, .ref a.1)] → K5 i3 i4 → W p l e rX0_mixedLayers s m ([.ref a.1, .long p1] : List Value).toArray below meth c H locs 0 0 (MQ below (va_Ql (fun r (_ : Unit) => Q r) (mB D (va_A (colB I a x) sz) (fun _ => colB I a x)) (va_A (colB I a x) sz)) ([.ref a.1, .long p1] : List Value).toArray s 0 0 (va_A (colB I a x) sz)) (F0 m 59 ls [])) (n7 : Nat) (i3 : Int32) (i4 : Int64) (H : Heap) (locs : List Loc) (ls : Array Slot), va_P D vwCl (colB I a x) H → va_D (va_A (colB I a x) sz) (colB I a x) → va_S (va_A (colB I a x) sz) s.heap H locs → lv_has ls 5 [(3, .int i3), (1, .long i4), (0, .ref a.1)] → qX0_mixedLayers_L12 K5 n7 i3 i4 → W p l e rX0_mixedLayers s m ([.ref a.1, .long p1] : List Value).toArray below meth c H locs 0 0 (MQ below (va_Ql (fun r (_ : Unit) => Q r) (mB D (va_A (colB I a x) sz) (fun _ => colB I a x)) (va_A (colB I a x) sz)) ([.ref a.1, .long p1] : List Value).toArray s 0 0 (va_A (colB I a x) sz)) (F0 m 12 ls []) := by
    intro K5 hx6 n7
    induction n7 with
    | zero =>
      intro i3 i4 H locs ls hP hD hS hl hw
      exact hw.elim
    | succ n7 ihn7 =>
      intro i3 i4 H locs ls hP hD hS hl hw
      unfold qX0_mixedLayers_L12 at hw
      exact ihn7 i3 i4 H locs ls hP hD hS (lv_sub hl [0, 1, 2] rfl) hw
  refine ky8 _ (fun i3 i4 H locs ls hP hD hS hl hw => ?_) n2 0 r1 H locs ls hP hD hS (lv_sub hl [0, 1, 2] rfl) hw
  refine lv_lload_n hx hb dX0_mixedLayers_59 rfl (lv_at hl 1 rfl) ?_
  exact m_lret (u := ()) hx hb hr hlocks hS hP hD dX0_mixedLayers_60 hw
end
section
def qX1_pipeVolume (x : Wel) (Q : Int32 → Prop) : Prop := Q ((y0 x) * (y1 x))
set_option maxHeartbeats 4000000 in
set_option maxRecDepth 100000 in
theorem kX1_pipeVolume (l : Launch) (D : va_G) (I O : ClassId) (a : WA) (sz : Nat) (x : Wel) (Q : Int32 → Prop) (hw : qX1_pipeVolume x Q) : Met l yX1_pipeVolume wsX1_pipeVolume rX1_pipeVolume (mPc D I O [.ref a.1] (welB I a x) sz) (va_Qi (fun r (_ : Unit) => Q r) (mB D (va_A (welB I a x) sz) (fun _ => welB I a x)) (va_A (welB I a x) sz)) 0 0 (va_A (welB I a x) sz) := by
  refine m_start (by decide) rfl (Nat.le_of_ble_eq_true rfl) (fun p e s m below meth c ls H locs hx hb hr hml hts hown hlocks hnm hK hP hD hA hS hl => ?_)
  have hown : s.vm.findClass RX1 = some m.cls := hown
  have hl : lv_has ls 1 [(0, .ref a.1)] := hl
  have hiX1 : ∀ w ∈ wsX10, w ∈ wsX1_pipeVolume := by decide +kernel
  have f0 := hts (.fieldLink RX1 9 "WellControl$Well" "depth" "I") (by decide +kernel)
  have f1 := hts (.fieldLink RX1 15 "WellControl$Well" "pipeCapacity" "I") (by decide +kernel)
  unfold qX1_pipeVolume at hw
  refine lv_aload_n hx hb dX1_pipeVolume_0 rfl (lv_at hl 0 rfl) ?_
  refine va_get (ci := 1) (v := .int (y0 x)) (C := RX1) (T := TX1) (N := 13) hx hb hts hiX1 hown hK.1 hP 0 rfl rfl 0 (by decide) f0 (fun _ h9 => h9) rfl dX1_pipeVolume_1 ?_
  refine lv_aload_n hx hb dX1_pipeVolume_4 rfl (lv_at hl 0 rfl) ?_
  refine va_get (ci := 1) (v := .int (y1 x)) (C := RX1) (T := TX1) (N := 13) hx hb hts hiX1 hown hK.1 hP 0 rfl rfl 1 (by decide) f1 (fun _ h9 => h9) rfl dX1_pipeVolume_5 ?_
  refine lv_imul hx hb dX1_pipeVolume_8 ?_
  exact m_iret (u := ()) hx hb hr hlocks hS hP hD dX1_pipeVolume_9 hw
def qX1_annulusVolume (x : Wel) (Q : Int32 → Prop) : Prop := Q ((y0 x) * (y2 x))
set_option maxHeartbeats 4000000 in
set_option maxRecDepth 100000 in
theorem kX1_annulusVolume (l : Launch) (D : va_G) (I O : ClassId) (a : WA) (sz : Nat) (x : Wel) (Q : Int32 → Prop) (hw : qX1_annulusVolume x Q) : Met l yX1_annulusVolume wsX1_annulusVolume rX1_annulusVolume (mPc D I O [.ref a.1] (welB I a x) sz) (va_Qi (fun r (_ : Unit) => Q r) (mB D (va_A (welB I a x) sz) (fun _ => welB I a x)) (va_A (welB I a x) sz)) 0 0 (va_A (welB I a x) sz) := by
  refine m_start (by decide) rfl (Nat.le_of_ble_eq_true rfl) (fun p e s m below meth c ls H locs hx hb hr hml hts hown hlocks hnm hK hP hD hA hS hl => ?_)
  have hown : s.vm.findClass RX1 = some m.cls := hown
  have hl : lv_has ls 1 [(0, .ref a.1)] := hl
  have hiX1 : ∀ w ∈ wsX10, w ∈ wsX1_annulusVolume := by decide +kernel
  have f0 := hts (.fieldLink RX1 9 "WellControl$Well" "depth" "I") (by decide +kernel)
  have f1 := hts (.fieldLink RX1 18 "WellControl$Well" "annulusCapacity" "I") (by decide +kernel)
  unfold qX1_annulusVolume at hw
  refine lv_aload_n hx hb dX1_annulusVolume_0 rfl (lv_at hl 0 rfl) ?_
  refine va_get (ci := 1) (v := .int (y0 x)) (C := RX1) (T := TX1) (N := 13) hx hb hts hiX1 hown hK.1 hP 0 rfl rfl 0 (by decide) f0 (fun _ h9 => h9) rfl dX1_annulusVolume_1 ?_
  refine lv_aload_n hx hb dX1_annulusVolume_4 rfl (lv_at hl 0 rfl) ?_
  refine va_get (ci := 1) (v := .int (y2 x)) (C := RX1) (T := TX1) (N := 13) hx hb hts hiX1 hown hK.1 hP 0 rfl rfl 2 (by decide) f1 (fun _ h9 => h9) rfl dX1_annulusVolume_5 ?_
  refine lv_imul hx hb dX1_annulusVolume_8 ?_
  exact m_iret (u := ()) hx hb hr hlocks hS hP hD dX1_annulusVolume_9 hw
set_option maxHeartbeats 4000000 in
set_option maxRecDepth 100000 in
theorem kX1_column_p (l : Launch) (D : va_G) (I O : ClassId) (a : WA) (sz : Nat) (x : Wel) (p1 : Int32) (Q : Prop) (hc : p1 = 0) (hw : Q) : Met l yX1_column wsX1_column rX1_column (mPc D I O [.ref a.1, .int p1] (welB I a x) sz) (va_Qr (fun (_ : Unit) => Q) (fun u v t => v = a.2.1.1 ∧ mB D (va_A (welB I a x) sz) (fun _ => welB I a x) u t) (va_A (welB I a x) sz)) 0 0 (va_A (welB I a x) sz) := by
  refine m_start (by decide) rfl (Nat.le_of_ble_eq_true rfl) (fun p e s m below meth c ls H locs hx hb hr hml hts hown hlocks hnm hK hP hD hA hS hl => ?_)
  have hown : s.vm.findClass RX1 = some m.cls := hown
  have hl : lv_has ls 2 [(0, .ref a.1), (1, .int p1)] := hl
  have hiX1 : ∀ w ∈ wsX10, w ∈ wsX1_column := by decide +kernel
  have f0 := hts (.fieldLink RX1 45 "WellControl$Well" "annulus" "LWellControl$Column;") (by decide +kernel)
  have f1 := hts (.fieldLink RX1 41 "WellControl$Well" "pipe" "LWellControl$Column;") (by decide +kernel)
  refine lv_iload_n hx hb dX1_column_0 rfl (lv_at hl 1 rfl) ?_
  refine lv_if_ne (tgt := 11) hx hb dX1_column_1 (by decide) (fun c1 => ?_) (fun c1 => ?_)
  · exact absurd hc c1
  · have hw := hw
    refine lv_aload_n hx hb dX1_column_4 rfl (lv_at hl 0 rfl) ?_
    refine va_get (ci := 1) (v := .ref a.2.1.1) (C := RX1) (T := TX1) (N := 13) hx hb hts hiX1 hown hK.1 hP 0 rfl rfl 11 (by decide) f1 (fun _ h9 => h9) rfl dX1_column_5 ?_
    refine lv_goto (tgt := 15) hx hb dX1_column_8 (by decide) ?_
    exact m_aret (u := ()) hx hb hr hlocks hS hP hD dX1_column_15 hw

set_option maxHeartbeats 4000000 in
set_option maxRecDepth 100000 in
theorem kX1_column_n (l : Launch) (D : va_G) (I O : ClassId) (a : WA) (sz : Nat) (x : Wel) (p1 : Int32) (Q : Prop) (hc : ¬ p1 = 0) (hw : Q) : Met l yX1_column wsX1_column rX1_column (mPc D I O [.ref a.1, .int p1] (welB I a x) sz) (va_Qr (fun (_ : Unit) => Q) (fun u v t => v = a.2.2.1 ∧ mB D (va_A (welB I a x) sz) (fun _ => welB I a x) u t) (va_A (welB I a x) sz)) 0 0 (va_A (welB I a x) sz) := by
  refine m_start (by decide) rfl (Nat.le_of_ble_eq_true rfl) (fun p e s m below meth c ls H locs hx hb hr hml hts hown hlocks hnm hK hP hD hA hS hl => ?_)
  have hown : s.vm.findClass RX1 = some m.cls := hown
  have hl : lv_has ls 2 [(0, .ref a.1), (1, .int p1)] := hl
  have hiX1 : ∀ w ∈ wsX10, w ∈ wsX1_column := by decide +kernel
  have f0 := hts (.fieldLink RX1 45 "WellControl$Well" "annulus" "LWellControl$Column;") (by decide +kernel)
  have f1 := hts (.fieldLink RX1 41 "WellControl$Well" "pipe" "LWellControl$Column;") (by decide +kernel)
  refine lv_iload_n hx hb dX1_column_0 rfl (lv_at hl 1 rfl) ?_
  refine lv_if_ne (tgt := 11) hx hb dX1_column_1 (by decide) (fun c1 => ?_) (fun c1 => ?_)
  · have hw := hw
    refine lv_aload_n hx hb dX1_column_11 rfl (lv_at hl 0 rfl) ?_
    refine va_get (ci := 1) (v := .ref a.2.2.1) (C := RX1) (T := TX1) (N := 13) hx hb hts hiX1 hown hK.1 hP 0 rfl rfl 12 (by decide) f0 (fun _ h9 => h9) rfl dX1_column_12 ?_
    exact m_aret (u := ()) hx hb hr hlocks hS hP hD dX1_column_15 hw
  · exact absurd c1 hc
def qX1_capacity (x : Wel) (p1 : Int32) (Q : Int32 → Prop) : Prop := ((¬ p1 = 0 → Q (y2 x)) ∧ (p1 = 0 → Q (y1 x)))
set_option maxHeartbeats 4000000 in
set_option maxRecDepth 100000 in
theorem kX1_capacity (l : Launch) (D : va_G) (I O : ClassId) (a : WA) (sz : Nat) (x : Wel) (p1 : Int32) (Q : Int32 → Prop) (hw : qX1_capacity x p1 Q) : Met l yX1_capacity wsX1_capacity rX1_capacity (mPc D I O [.ref a.1, .int p1] (welB I a x) sz) (va_Qi (fun r (_ : Unit) => Q r) (mB D (va_A (welB I a x) sz) (fun _ => welB I a x)) (va_A (welB I a x) sz)) 0 0 (va_A (welB I a x) sz) := by
  refine m_start (by decide) rfl (Nat.le_of_ble_eq_true rfl) (fun p e s m below meth c ls H locs hx hb hr hml hts hown hlocks hnm hK hP hD hA hS hl => ?_)
  have hown : s.vm.findClass RX1 = some m.cls := hown
  have hl : lv_has ls 2 [(0, .ref a.1), (1, .int p1)] := hl
  have hiX1 : ∀ w ∈ wsX10, w ∈ wsX1_capacity := by decide +kernel
  have f0 := hts (.fieldLink RX1 18 "WellControl$Well" "annulusCapacity" "I") (by decide +kernel)
  have f1 := hts (.fieldLink RX1 15 "WellControl$Well" "pipeCapacity" "I") (by decide +kernel)
  unfold qX1_capacity at hw
  refine lv_iload_n hx hb dX1_capacity_0 rfl (lv_at hl 1 rfl) ?_
  refine lv_if_ne (tgt := 11) hx hb dX1_capacity_1 (by decide) (fun c1 => ?_) (fun c1 => ?_)
  · have hw := hw.1 c1
    refine lv_aload_n hx hb dX1_capacity_11 rfl (lv_at hl 0 rfl) ?_
    refine va_get (ci := 1) (v := .int (y2 x)) (C := RX1) (T := TX1) (N := 13) hx hb hts hiX1 hown hK.1 hP 0 rfl rfl 2 (by decide) f0 (fun _ h9 => h9) rfl dX1_capacity_12 ?_
    exact m_iret (u := ()) hx hb hr hlocks hS hP hD dX1_capacity_15 hw
  · have hw := hw.2 c1
    refine lv_aload_n hx hb dX1_capacity_4 rfl (lv_at hl 0 rfl) ?_
    refine va_get (ci := 1) (v := .int (y1 x)) (C := RX1) (T := TX1) (N := 13) hx hb hts hiX1 hown hK.1 hP 0 rfl rfl 1 (by decide) f1 (fun _ h9 => h9) rfl dX1_capacity_5 ?_
    refine lv_goto (tgt := 15) hx hb dX1_capacity_8 (by decide) ?_
    exact m_iret (u := ()) hx hb hr hlocks hS hP hD dX1_capacity_15 hw
def qX1_canCirculate (x : Wel) (p1 : Int32) (Q : Int32 → Prop) : Prop := (qX1_pipeVolume x (fun r1 => ((r1 < p1 → Q 0) ∧ (¬ r1 < p1 → (qX1_annulusVolume x (fun r3 => ((r3 < p1 → Q 0) ∧ (¬ r3 < p1 → Q 1))))))))
set_option maxHeartbeats 4000000 in
set_option maxRecDepth 100000 in
theorem kX1_canCirculate (l : Launch) (D : va_G) (I O : ClassId) (a : WA) (sz : Nat) (x : Wel) (p1 : Int32) (Q : Int32 → Prop) (hw : qX1_canCirculate x p1 Q) : Met l yX1_canCirculate wsX1_canCirculate rX1_canCirculate (mPc D I O [.ref a.1, .int p1] (welB I a x) sz) (va_Qi (fun r (_ : Unit) => Q r) (mB D (va_A (welB I a x) sz) (fun _ => welB I a x)) (va_A (welB I a x) sz)) 0 0 (va_A (welB I a x) sz) := by
  refine m_start (by decide) rfl (Nat.le_of_ble_eq_true rfl) (fun p e s m below meth c ls H locs hx hb hr hml hts hown hlocks hnm hK hP hD hA hS hl => ?_)
  have hown : s.vm.findClass RX1 = some m.cls := hown
  have hl : lv_has ls 2 [(0, .ref a.1), (1, .int p1)] := hl
  unfold qX1_canCirculate at hw
  refine lv_iload_n hx hb dX1_canCirculate_0 rfl (lv_at hl 1 rfl) ?_
  refine lv_aload_n hx hb dX1_canCirculate_1 rfl (lv_at hl 0 rfl) ?_
  refine mw_i (mv_V (As := []) (rest := [.int p1]) ⟨hx, hb, hml, hown, hts⟩ (kX1_pipeVolume l D I O a H.size x _ hw) (cwV 0 hts gX1_canCirculate_X1_pipeVolume rfl rfl rfl hdVX1_pipeVolume ⟨(Nat.le_of_ble_eq_true rfl), (Nat.le_of_ble_eq_true rfl)⟩) hK hP hD 0 1 rfl rfl rfl rfl hl.1 rfl (Nat.le_of_ble_eq_true rfl) dX1_canCirculate_2 ⟨(Nat.le_of_ble_eq_true rfl), (Nat.le_of_ble_eq_true rfl)⟩) hP hD hS hA (fun r1 _ H locs hw hP hD hS => ?_)
  have hP : va_P D vwCl (welB I a x) H := hP
  have hD : va_D (va_A (welB I a x) sz) (welB I a x) := hD
  refine lv_icmp_gt (tgt := 20) hx hb dX1_canCirculate_5 (by decide) (fun c2 => ?_) (fun c2 => ?_)
  · have hw := hw.1 c2
    refine lv_iconst (v := 0) hx hb dX1_canCirculate_20 (by decide) ?_
    exact m_zret (u := ()) hx hb hr hlocks (by decide) hS hP hD dX1_canCirculate_21 hw
  · have hw := hw.2 c2
    refine lv_iload_n hx hb dX1_canCirculate_8 rfl (lv_at hl 1 rfl) ?_
    refine lv_aload_n hx hb dX1_canCirculate_9 rfl (lv_at hl 0 rfl) ?_
    refine mw_i (mv_V (As := []) (rest := [.int p1]) ⟨hx, hb, hml, hown, hts⟩ (kX1_annulusVolume l D I O a H.size x _ hw) (cwV 0 hts gX1_canCirculate_X1_annulusVolume rfl rfl rfl hdVX1_annulusVolume ⟨(Nat.le_of_ble_eq_true rfl), (Nat.le_of_ble_eq_true rfl)⟩) hK hP hD 0 1 rfl rfl rfl rfl hl.1 rfl (Nat.le_of_ble_eq_true rfl) dX1_canCirculate_10 ⟨(Nat.le_of_ble_eq_true rfl), (Nat.le_of_ble_eq_true rfl)⟩) hP hD hS hA (fun r3 _ H locs hw hP hD hS => ?_)
    have hP : va_P D vwCl (welB I a x) H := hP
    have hD : va_D (va_A (welB I a x) sz) (welB I a x) := hD
    refine lv_icmp_gt (tgt := 20) hx hb dX1_canCirculate_13 (by decide) (fun c4 => ?_) (fun c4 => ?_)
    · have hw := hw.1 c4
      refine lv_iconst (v := 0) hx hb dX1_canCirculate_20 (by decide) ?_
      exact m_zret (u := ()) hx hb hr hlocks (by decide) hS hP hD dX1_canCirculate_21 hw
    · have hw := hw.2 c4
      refine lv_iconst (v := 1) hx hb dX1_canCirculate_16 (by decide) ?_
      refine lv_goto (tgt := 21) hx hb dX1_canCirculate_17 (by decide) ?_
      exact m_zret (u := ()) hx hb hr hlocks (by decide) hS hP hD dX1_canCirculate_21 hw
def qX1_startAnew (x : Wel) (Q : Wel → Prop) : Prop := (qX0_clear (yP x) (fun u1 => (qX1_pipeVolume (y0 x, y1 x, y2 x, y3 x, y4 x, y5 x, y6 x, y7 x, y8 x, y9 x, y10 x, u1, yA x) (fun r2 => (qX0_enter u1 r2 (y4 x) (fun u3 => (qX0_clear (yA x) (fun u4 => (qX1_annulusVolume (y0 x, y1 x, y2 x, y3 x, y4 x, y5 x, y6 x, y7 x, y8 x, y9 x, y10 x, u3, u4) (fun r5 => (qX0_enter u4 r5 (y4 x) (fun u6 => Q (y0 x, y1 x, y2 x, y3 x, y4 x, y5 x, y6 x, y7 x, 0, 0, 0, u3, u6)))))))))))))
set_option maxHeartbeats 4000000 in
set_option maxRecDepth 100000 in
theorem kX1_startAnew (l : Launch) (D : va_G) (I O : ClassId) (a : WA) (sz : Nat) (x : Wel) (Q : Wel → Prop) (hw : qX1_startAnew x Q) : Met l yX1_startAnew wsX1_startAnew rX1_startAnew (mPc D I O [.ref a.1] (welB I a x) sz) (va_Qv (fun (u : Wel) => Q u) (mB D (va_A (welB I a x) sz) (fun u => welB I a u)) (va_A (welB I a x) sz)) 0 0 (va_A (welB I a x) sz) := by
  refine m_start (by decide) rfl (Nat.le_of_ble_eq_true rfl) (fun p e s m below meth c ls H locs hx hb hr hml hts hown hlocks hnm hK hP hD hA hS hl => ?_)
  have hown : s.vm.findClass RX1 = some m.cls := hown
  have hl : lv_has ls 1 [(0, .ref a.1)] := hl
  have hiX1 : ∀ w ∈ wsX10, w ∈ wsX1_startAnew := by decide +kernel
  have f0 := hts (.fieldLink RX1 41 "WellControl$Well" "pipe" "LWellControl$Column;") (by decide +kernel)
  have f1 := hts (.fieldLink RX1 24 "WellControl$Well" "mud" "I") (by decide +kernel)
  have f2 := hts (.fieldLink RX1 45 "WellControl$Well" "annulus" "LWellControl$Column;") (by decide +kernel)
  have f3 := hts (.fieldLink RX1 65 "WellControl$Well" "gained" "I") (by decide +kernel)
  have f4 := hts (.fieldLink RX1 68 "WellControl$Well" "timesBroken" "I") (by decide +kernel)
  have f5 := hts (.fieldLink RX1 71 "WellControl$Well" "greatestAtShoe" "I") (by decide +kernel)
  unfold qX1_startAnew at hw
  refine lv_aload_n hx hb dX1_startAnew_0 rfl (lv_at hl 0 rfl) ?_
  refine va_get (ci := 1) (v := .ref a.2.1.1) (C := RX1) (T := TX1) (N := 13) hx hb hts hiX1 hown hK.1 hP 0 rfl rfl 11 (by decide) f0 (fun _ h9 => h9) rfl dX1_startAnew_1 ?_
  have hPc := va_P.mid (X := [welO a x]) (wc := colB I a.2.1 (yP x)) (Y := colB I a.2.2 (yA x)) hP
  have hDc := va_D.mid (X := [welO a x]) (wc := colB I a.2.1 (yP x)) (Y := colB I a.2.2 (yA x)) hD
  refine mc_v ([welO a x]) (colB I a.2.2 (yA x)) (mv_V (As := []) (rest := []) ⟨hx, hb, hml, hown, hts⟩ (kX0_clear l D I O a.2.1 H.size (yP x) _ hw) (cwV 0 hts gX1_startAnew_X0_clear rfl rfl rfl hdVX0_clear ⟨(Nat.le_of_ble_eq_true rfl), (Nat.le_of_ble_eq_true rfl)⟩) hK hPc hDc 0 0 rfl rfl rfl rfl hl.1 rfl (Nat.le_of_ble_eq_true rfl) dX1_startAnew_4 ⟨(Nat.le_of_ble_eq_true rfl), (Nat.le_of_ble_eq_true rfl)⟩) hP hD hS hA (fun u1 H locs hw hP hD hS => ?_)
  have hP : va_P D vwCl (welB I a (y0 x, y1 x, y2 x, y3 x, y4 x, y5 x, y6 x, y7 x, y8 x, y9 x, y10 x, u1, yA x)) H := hP
  have hD : va_D (va_A (welB I a x) sz) (welB I a (y0 x, y1 x, y2 x, y3 x, y4 x, y5 x, y6 x, y7 x, y8 x, y9 x, y10 x, u1, yA x)) := hD
  refine lv_aload_n hx hb dX1_startAnew_7 rfl (lv_at hl 0 rfl) ?_
  refine va_get (ci := 1) (v := .ref a.2.1.1) (C := RX1) (T := TX1) (N := 13) hx hb hts hiX1 hown hK.1 hP 0 rfl rfl 11 (by decide) f0 (fun _ h9 => h9) rfl dX1_startAnew_8 ?_
  refine lv_aload_n hx hb dX1_startAnew_11 rfl (lv_at hl 0 rfl) ?_
  refine mw_i (mv_V (As := []) (rest := [.ref a.2.1.1]) ⟨hx, hb, hml, hown, hts⟩ (kX1_pipeVolume l D I O a H.size (y0 x, y1 x, y2 x, y3 x, y4 x, y5 x, y6 x, y7 x, y8 x, y9 x, y10 x, u1, yA x) _ hw) (cwV 0 hts gX1_startAnew_X1_pipeVolume rfl rfl rfl hdVX1_pipeVolume ⟨(Nat.le_of_ble_eq_true rfl), (Nat.le_of_ble_eq_true rfl)⟩) hK hP hD 0 1 rfl rfl rfl rfl hl.1 rfl (Nat.le_of_ble_eq_true rfl) dX1_startAnew_12 ⟨(Nat.le_of_ble_eq_true rfl), (Nat.le_of_ble_eq_true rfl)⟩) hP hD hS hA (fun r2 _ H locs hw hP hD hS => ?_)
  have hP : va_P D vwCl (welB I a (y0 x, y1 x, y2 x, y3 x, y4 x, y5 x, y6 x, y7 x, y8 x, y9 x, y10 x, u1, yA x)) H := hP
  have hD : va_D (va_A (welB I a x) sz) (welB I a (y0 x, y1 x, y2 x, y3 x, y4 x, y5 x, y6 x, y7 x, y8 x, y9 x, y10 x, u1, yA x)) := hD
  refine lv_aload_n hx hb dX1_startAnew_15 rfl (lv_at hl 0 rfl) ?_
  refine va_get (ci := 1) (v := .int (y4 x)) (C := RX1) (T := TX1) (N := 13) hx hb hts hiX1 hown hK.1 hP 0 rfl rfl 4 (by decide) f1 (fun _ h9 => h9) rfl dX1_startAnew_16 ?_
  have hPc := va_P.mid (X := [welO a (y0 x, y1 x, y2 x, y3 x, y4 x, y5 x, y6 x, y7 x, y8 x, y9 x, y10 x, u1, yA x)]) (wc := colB I a.2.1 u1) (Y := colB I a.2.2 (yA x)) hP
  have hDc := va_D.mid (X := [welO a (y0 x, y1 x, y2 x, y3 x, y4 x, y5 x, y6 x, y7 x, y8 x, y9 x, y10 x, u1, yA x)]) (wc := colB I a.2.1 u1) (Y := colB I a.2.2 (yA x)) hD
  refine mc_v ([welO a (y0 x, y1 x, y2 x, y3 x, y4 x, y5 x, y6 x, y7 x, y8 x, y9 x, y10 x, u1, yA x)]) (colB I a.2.2 (yA x)) (mv_V (As := [.int r2, .int (y4 x)]) (rest := []) ⟨hx, hb, hml, hown, hts⟩ (kX0_enter l D I O a.2.1 H.size u1 r2 (y4 x) _ hw) (cwV 2 hts gX1_startAnew_X0_enter rfl rfl rfl hdVX0_enter ⟨(Nat.le_of_ble_eq_true rfl), (Nat.le_of_ble_eq_true rfl)⟩) hK hPc hDc 0 0 rfl rfl rfl rfl hl.1 rfl (Nat.le_of_ble_eq_true rfl) dX1_startAnew_19 ⟨(Nat.le_of_ble_eq_true rfl), (Nat.le_of_ble_eq_true rfl)⟩) hP hD hS hA (fun u3 H locs hw hP hD hS => ?_)
  have hP : va_P D vwCl (welB I a (y0 x, y1 x, y2 x, y3 x, y4 x, y5 x, y6 x, y7 x, y8 x, y9 x, y10 x, u3, yA x)) H := hP
  have hD : va_D (va_A (welB I a x) sz) (welB I a (y0 x, y1 x, y2 x, y3 x, y4 x, y5 x, y6 x, y7 x, y8 x, y9 x, y10 x, u3, yA x)) := hD
  refine lv_aload_n hx hb dX1_startAnew_22 rfl (lv_at hl 0 rfl) ?_
  refine va_get (ci := 1) (v := .ref a.2.2.1) (C := RX1) (T := TX1) (N := 13) hx hb hts hiX1 hown hK.1 hP 0 rfl rfl 12 (by decide) f2 (fun _ h9 => h9) rfl dX1_startAnew_23 ?_
  have hPc := va_P.mid (X := welO a (y0 x, y1 x, y2 x, y3 x, y4 x, y5 x, y6 x, y7 x, y8 x, y9 x, y10 x, u3, yA x) :: colB I a.2.1 u3) (wc := colB I a.2.2 (yA x)) (Y := []) hP
  have hDc := va_D.mid (X := welO a (y0 x, y1 x, y2 x, y3 x, y4 x, y5 x, y6 x, y7 x, y8 x, y9 x, y10 x, u3, yA x) :: colB I a.2.1 u3) (wc := colB I a.2.2 (yA x)) (Y := []) hD
  refine mc_v (welO a (y0 x, y1 x, y2 x, y3 x, y4 x, y5 x, y6 x, y7 x, y8 x, y9 x, y10 x, u3, yA x) :: colB I a.2.1 u3) ([]) (mv_V (As := []) (rest := []) ⟨hx, hb, hml, hown, hts⟩ (kX0_clear l D I O a.2.2 H.size (yA x) _ hw) (cwV 0 hts gX1_startAnew_X0_clear rfl rfl rfl hdVX0_clear ⟨(Nat.le_of_ble_eq_true rfl), (Nat.le_of_ble_eq_true rfl)⟩) hK hPc hDc 0 0 rfl rfl rfl rfl hl.1 rfl (Nat.le_of_ble_eq_true rfl) dX1_startAnew_26 ⟨(Nat.le_of_ble_eq_true rfl), (Nat.le_of_ble_eq_true rfl)⟩) hP hD hS hA (fun u4 H locs hw hP hD hS => ?_)
  have hP : va_P D vwCl (welB I a (y0 x, y1 x, y2 x, y3 x, y4 x, y5 x, y6 x, y7 x, y8 x, y9 x, y10 x, u3, u4)) H := hP
  have hD : va_D (va_A (welB I a x) sz) (welB I a (y0 x, y1 x, y2 x, y3 x, y4 x, y5 x, y6 x, y7 x, y8 x, y9 x, y10 x, u3, u4)) := hD
  refine lv_aload_n hx hb dX1_startAnew_29 rfl (lv_at hl 0 rfl) ?_
  refine va_get (ci := 1) (v := .ref a.2.2.1) (C := RX1) (T := TX1) (N := 13) hx hb hts hiX1 hown hK.1 hP 0 rfl rfl 12 (by decide) f2 (fun _ h9 => h9) rfl dX1_startAnew_30 ?_
  refine lv_aload_n hx hb dX1_startAnew_33 rfl (lv_at hl 0 rfl) ?_
  refine mw_i (mv_V (As := []) (rest := [.ref a.2.2.1]) ⟨hx, hb, hml, hown, hts⟩ (kX1_annulusVolume l D I O a H.size (y0 x, y1 x, y2 x, y3 x, y4 x, y5 x, y6 x, y7 x, y8 x, y9 x, y10 x, u3, u4) _ hw) (cwV 0 hts gX1_startAnew_X1_annulusVolume rfl rfl rfl hdVX1_annulusVolume ⟨(Nat.le_of_ble_eq_true rfl), (Nat.le_of_ble_eq_true rfl)⟩) hK hP hD 0 1 rfl rfl rfl rfl hl.1 rfl (Nat.le_of_ble_eq_true rfl) dX1_startAnew_34 ⟨(Nat.le_of_ble_eq_true rfl), (Nat.le_of_ble_eq_true rfl)⟩) hP hD hS hA (fun r5 _ H locs hw hP hD hS => ?_)
  have hP : va_P D vwCl (welB I a (y0 x, y1 x, y2 x, y3 x, y4 x, y5 x, y6 x, y7 x, y8 x, y9 x, y10 x, u3, u4)) H := hP
  have hD : va_D (va_A (welB I a x) sz) (welB I a (y0 x, y1 x, y2 x, y3 x, y4 x, y5 x, y6 x, y7 x, y8 x, y9 x, y10 x, u3, u4)) := hD
  refine lv_aload_n hx hb dX1_startAnew_37 rfl (lv_at hl 0 rfl) ?_
  refine va_get (ci := 1) (v := .int (y4 x)) (C := RX1) (T := TX1) (N := 13) hx hb hts hiX1 hown hK.1 hP 0 rfl rfl 4 (by decide) f1 (fun _ h9 => h9) rfl dX1_startAnew_38 ?_
  have hPc := va_P.mid (X := welO a (y0 x, y1 x, y2 x, y3 x, y4 x, y5 x, y6 x, y7 x, y8 x, y9 x, y10 x, u3, u4) :: colB I a.2.1 u3) (wc := colB I a.2.2 u4) (Y := []) hP
  have hDc := va_D.mid (X := welO a (y0 x, y1 x, y2 x, y3 x, y4 x, y5 x, y6 x, y7 x, y8 x, y9 x, y10 x, u3, u4) :: colB I a.2.1 u3) (wc := colB I a.2.2 u4) (Y := []) hD
  refine mc_v (welO a (y0 x, y1 x, y2 x, y3 x, y4 x, y5 x, y6 x, y7 x, y8 x, y9 x, y10 x, u3, u4) :: colB I a.2.1 u3) ([]) (mv_V (As := [.int r5, .int (y4 x)]) (rest := []) ⟨hx, hb, hml, hown, hts⟩ (kX0_enter l D I O a.2.2 H.size u4 r5 (y4 x) _ hw) (cwV 2 hts gX1_startAnew_X0_enter rfl rfl rfl hdVX0_enter ⟨(Nat.le_of_ble_eq_true rfl), (Nat.le_of_ble_eq_true rfl)⟩) hK hPc hDc 0 0 rfl rfl rfl rfl hl.1 rfl (Nat.le_of_ble_eq_true rfl) dX1_startAnew_41 ⟨(Nat.le_of_ble_eq_true rfl), (Nat.le_of_ble_eq_true rfl)⟩) hP hD hS hA (fun u6 H locs hw hP hD hS => ?_)
  have hP : va_P D vwCl (welB I a (y0 x, y1 x, y2 x, y3 x, y4 x, y5 x, y6 x, y7 x, y8 x, y9 x, y10 x, u3, u6)) H := hP
  have hD : va_D (va_A (welB I a x) sz) (welB I a (y0 x, y1 x, y2 x, y3 x, y4 x, y5 x, y6 x, y7 x, y8 x, y9 x, y10 x, u3, u6)) := hD
  refine lv_aload_n hx hb dX1_startAnew_44 rfl (lv_at hl 0 rfl) ?_
  refine lv_iconst (v := 0) hx hb dX1_startAnew_45 (by decide) ?_
  refine va_put (ci := 1) (v := .int 0) (ty := .int) (C := RX1) (T := TX1) (N := 13) hx hb hts hiX1 tyX1 tyX1_ok nmX1 hown hK.1 hP hD hS 0 rfl rfl 8 (by decide) f3 (fun _ h9 => h9) rfl (by decide +kernel) rfl rfl (Nat.le_of_ble_eq_true rfl) dX1_startAnew_46 (fun H locs hP hD hS => ?_)
  have hP : va_P D vwCl (welB I a (y0 x, y1 x, y2 x, y3 x, y4 x, y5 x, y6 x, y7 x, 0, y9 x, y10 x, u3, u6)) H := hP
  have hD : va_D (va_A (welB I a x) sz) (welB I a (y0 x, y1 x, y2 x, y3 x, y4 x, y5 x, y6 x, y7 x, 0, y9 x, y10 x, u3, u6)) := hD
  refine lv_aload_n hx hb dX1_startAnew_49 rfl (lv_at hl 0 rfl) ?_
  refine lv_iconst (v := 0) hx hb dX1_startAnew_50 (by decide) ?_
  refine va_put (ci := 1) (v := .int 0) (ty := .int) (C := RX1) (T := TX1) (N := 13) hx hb hts hiX1 tyX1 tyX1_ok nmX1 hown hK.1 hP hD hS 0 rfl rfl 9 (by decide) f4 (fun _ h9 => h9) rfl (by decide +kernel) rfl rfl (Nat.le_of_ble_eq_true rfl) dX1_startAnew_51 (fun H locs hP hD hS => ?_)
  have hP : va_P D vwCl (welB I a (y0 x, y1 x, y2 x, y3 x, y4 x, y5 x, y6 x, y7 x, 0, 0, y10 x, u3, u6)) H := hP
  have hD : va_D (va_A (welB I a x) sz) (welB I a (y0 x, y1 x, y2 x, y3 x, y4 x, y5 x, y6 x, y7 x, 0, 0, y10 x, u3, u6)) := hD
  refine lv_aload_n hx hb dX1_startAnew_54 rfl (lv_at hl 0 rfl) ?_
  refine lv_iconst (v := 0) hx hb dX1_startAnew_55 (by decide) ?_
  refine va_put (ci := 1) (v := .int 0) (ty := .int) (C := RX1) (T := TX1) (N := 13) hx hb hts hiX1 tyX1 tyX1_ok nmX1 hown hK.1 hP hD hS 0 rfl rfl 10 (by decide) f5 (fun _ h9 => h9) rfl (by decide +kernel) rfl rfl (Nat.le_of_ble_eq_true rfl) dX1_startAnew_56 (fun H locs hP hD hS => ?_)
  have hP : va_P D vwCl (welB I a (y0 x, y1 x, y2 x, y3 x, y4 x, y5 x, y6 x, y7 x, 0, 0, 0, u3, u6)) H := hP
  have hD : va_D (va_A (welB I a x) sz) (welB I a (y0 x, y1 x, y2 x, y3 x, y4 x, y5 x, y6 x, y7 x, 0, 0, 0, u3, u6)) := hD
  exact m_vret (u := (y0 x, y1 x, y2 x, y3 x, y4 x, y5 x, y6 x, y7 x, 0, 0, 0, u3, u6)) hx hb hr hlocks hS hP hD dX1_startAnew_59 hw
def qX1_circulate (x : Wel) (p1 : Int32) (p2 : Int32) (Q : Wel → Prop) : Prop := (qX0_release (yA x) p1 (fun u1 => (qX0_releaseInto (yP x) u1 p1 (fun u2 => (qX0_enter u2.1 p1 p2 (fun u3 => Q (y0 x, y1 x, y2 x, y3 x, y4 x, y5 x, y6 x, y7 x, y8 x, y9 x, y10 x, u3, u2.2)))))))
set_option maxHeartbeats 4000000 in
set_option maxRecDepth 100000 in
theorem kX1_circulate (l : Launch) (D : va_G) (I O : ClassId) (a : WA) (sz : Nat) (x : Wel) (p1 : Int32) (p2 : Int32) (Q : Wel → Prop) (hw : qX1_circulate x p1 p2 Q) : Met l yX1_circulate wsX1_circulate rX1_circulate (mPc D I O [.ref a.1, .int p1, .int p2] (welB I a x) sz) (va_Qv (fun (u : Wel) => Q u) (mB D (va_A (welB I a x) sz) (fun u => welB I a u)) (va_A (welB I a x) sz)) 0 0 (va_A (welB I a x) sz) := by
  refine m_start (by decide) rfl (Nat.le_of_ble_eq_true rfl) (fun p e s m below meth c ls H locs hx hb hr hml hts hown hlocks hnm hK hP hD hA hS hl => ?_)
  have hown : s.vm.findClass RX1 = some m.cls := hown
  have hl : lv_has ls 3 [(0, .ref a.1), (1, .int p1), (2, .int p2)] := hl
  have hiX1 : ∀ w ∈ wsX10, w ∈ wsX1_circulate := by decide +kernel
  have f0 := hts (.fieldLink RX1 45 "WellControl$Well" "annulus" "LWellControl$Column;") (by decide +kernel)
  have f1 := hts (.fieldLink RX1 41 "WellControl$Well" "pipe" "LWellControl$Column;") (by decide +kernel)
  unfold qX1_circulate at hw
  refine lv_aload_n hx hb dX1_circulate_0 rfl (lv_at hl 0 rfl) ?_
  refine va_get (ci := 1) (v := .ref a.2.2.1) (C := RX1) (T := TX1) (N := 13) hx hb hts hiX1 hown hK.1 hP 0 rfl rfl 12 (by decide) f0 (fun _ h9 => h9) rfl dX1_circulate_1 ?_
  refine lv_iload_n hx hb dX1_circulate_4 rfl (lv_at hl 1 rfl) ?_
  have hPc := va_P.mid (X := welO a x :: colB I a.2.1 (yP x)) (wc := colB I a.2.2 (yA x)) (Y := []) hP
  have hDc := va_D.mid (X := welO a x :: colB I a.2.1 (yP x)) (wc := colB I a.2.2 (yA x)) (Y := []) hD
  refine mc_v (welO a x :: colB I a.2.1 (yP x)) ([]) (mv_V (As := [.int p1]) (rest := []) ⟨hx, hb, hml, hown, hts⟩ (kX0_release l D I O a.2.2 H.size (yA x) p1 _ hw) (cwV 1 hts gX1_circulate_X0_release rfl rfl rfl hdVX0_release ⟨(Nat.le_of_ble_eq_true rfl), (Nat.le_of_ble_eq_true rfl)⟩) hK hPc hDc 0 0 rfl rfl rfl rfl hl.1 rfl (Nat.le_of_ble_eq_true rfl) dX1_circulate_5 ⟨(Nat.le_of_ble_eq_true rfl), (Nat.le_of_ble_eq_true rfl)⟩) hP hD hS hA (fun u1 H locs hw hP hD hS => ?_)
  have hP : va_P D vwCl (welB I a (y0 x, y1 x, y2 x, y3 x, y4 x, y5 x, y6 x, y7 x, y8 x, y9 x, y10 x, yP x, u1)) H := hP
  have hD : va_D (va_A (welB I a x) sz) (welB I a (y0 x, y1 x, y2 x, y3 x, y4 x, y5 x, y6 x, y7 x, y8 x, y9 x, y10 x, yP x, u1)) := hD
  refine lv_aload_n hx hb dX1_circulate_8 rfl (lv_at hl 0 rfl) ?_
  refine va_get (ci := 1) (v := .ref a.2.1.1) (C := RX1) (T := TX1) (N := 13) hx hb hts hiX1 hown hK.1 hP 0 rfl rfl 11 (by decide) f1 (fun _ h9 => h9) rfl dX1_circulate_9 ?_
  refine lv_aload_n hx hb dX1_circulate_12 rfl (lv_at hl 0 rfl) ?_
  refine va_get (ci := 1) (v := .ref a.2.2.1) (C := RX1) (T := TX1) (N := 13) hx hb hts hiX1 hown hK.1 hP 0 rfl rfl 12 (by decide) f0 (fun _ h9 => h9) rfl dX1_circulate_13 ?_
  refine lv_iload_n hx hb dX1_circulate_16 rfl (lv_at hl 1 rfl) ?_
  have hPc := va_P.mid (X := [welO a (y0 x, y1 x, y2 x, y3 x, y4 x, y5 x, y6 x, y7 x, y8 x, y9 x, y10 x, yP x, u1)]) (wc := colB I a.2.1 (yP x) ++ colB I a.2.2 u1) (Y := []) hP
  have hDc := va_D.mid (X := [welO a (y0 x, y1 x, y2 x, y3 x, y4 x, y5 x, y6 x, y7 x, y8 x, y9 x, y10 x, yP x, u1)]) (wc := colB I a.2.1 (yP x) ++ colB I a.2.2 u1) (Y := []) hD
  refine mc_v ([welO a (y0 x, y1 x, y2 x, y3 x, y4 x, y5 x, y6 x, y7 x, y8 x, y9 x, y10 x, yP x, u1)]) ([]) (mv_V (As := [.ref a.2.2.1, .int p1]) (rest := []) ⟨hx, hb, hml, hown, hts⟩ (kX0_releaseInto l D I O a.2.1 a.2.2 H.size (yP x) u1 p1 _ hw) (cwV 2 hts gX1_circulate_X0_releaseInto rfl rfl rfl hdVX0_releaseInto ⟨(Nat.le_of_ble_eq_true rfl), (Nat.le_of_ble_eq_true rfl)⟩) hK hPc hDc 0 0 rfl rfl rfl rfl hl.1 rfl (Nat.le_of_ble_eq_true rfl) dX1_circulate_17 ⟨(Nat.le_of_ble_eq_true rfl), (Nat.le_of_ble_eq_true rfl)⟩) hP hD hS hA (fun u2 H locs hw hP hD hS => ?_)
  have hP : va_P D vwCl (welB I a (y0 x, y1 x, y2 x, y3 x, y4 x, y5 x, y6 x, y7 x, y8 x, y9 x, y10 x, u2.1, u2.2)) H := hP
  have hD : va_D (va_A (welB I a x) sz) (welB I a (y0 x, y1 x, y2 x, y3 x, y4 x, y5 x, y6 x, y7 x, y8 x, y9 x, y10 x, u2.1, u2.2)) := hD
  refine lv_aload_n hx hb dX1_circulate_20 rfl (lv_at hl 0 rfl) ?_
  refine va_get (ci := 1) (v := .ref a.2.1.1) (C := RX1) (T := TX1) (N := 13) hx hb hts hiX1 hown hK.1 hP 0 rfl rfl 11 (by decide) f1 (fun _ h9 => h9) rfl dX1_circulate_21 ?_
  refine lv_iload_n hx hb dX1_circulate_24 rfl (lv_at hl 1 rfl) ?_
  refine lv_iload_n hx hb dX1_circulate_25 rfl (lv_at hl 2 rfl) ?_
  have hPc := va_P.mid (X := [welO a (y0 x, y1 x, y2 x, y3 x, y4 x, y5 x, y6 x, y7 x, y8 x, y9 x, y10 x, u2.1, u2.2)]) (wc := colB I a.2.1 u2.1) (Y := colB I a.2.2 u2.2) hP
  have hDc := va_D.mid (X := [welO a (y0 x, y1 x, y2 x, y3 x, y4 x, y5 x, y6 x, y7 x, y8 x, y9 x, y10 x, u2.1, u2.2)]) (wc := colB I a.2.1 u2.1) (Y := colB I a.2.2 u2.2) hD
  refine mc_v ([welO a (y0 x, y1 x, y2 x, y3 x, y4 x, y5 x, y6 x, y7 x, y8 x, y9 x, y10 x, u2.1, u2.2)]) (colB I a.2.2 u2.2) (mv_V (As := [.int p1, .int p2]) (rest := []) ⟨hx, hb, hml, hown, hts⟩ (kX0_enter l D I O a.2.1 H.size u2.1 p1 p2 _ hw) (cwV 2 hts gX1_circulate_X0_enter rfl rfl rfl hdVX0_enter ⟨(Nat.le_of_ble_eq_true rfl), (Nat.le_of_ble_eq_true rfl)⟩) hK hPc hDc 0 0 rfl rfl rfl rfl hl.1 rfl (Nat.le_of_ble_eq_true rfl) dX1_circulate_26 ⟨(Nat.le_of_ble_eq_true rfl), (Nat.le_of_ble_eq_true rfl)⟩) hP hD hS hA (fun u3 H locs hw hP hD hS => ?_)
  have hP : va_P D vwCl (welB I a (y0 x, y1 x, y2 x, y3 x, y4 x, y5 x, y6 x, y7 x, y8 x, y9 x, y10 x, u3, u2.2)) H := hP
  have hD : va_D (va_A (welB I a x) sz) (welB I a (y0 x, y1 x, y2 x, y3 x, y4 x, y5 x, y6 x, y7 x, y8 x, y9 x, y10 x, u3, u2.2)) := hD
  exact m_vret (u := (y0 x, y1 x, y2 x, y3 x, y4 x, y5 x, y6 x, y7 x, y8 x, y9 x, y10 x, u3, u2.2)) hx hb hr hlocks hS hP hD dX1_circulate_29 hw
def qX1_pressureOf (p1 : Int64) (p2 : Int32) (Q : Int32 → Prop) : Prop := (¬ (100000 * (Int32.toInt64 (if (1 : Int32) < p2 then p2 else 1))) = 0 ∧ Q (Int64.toInt32 ((981 * p1) / (100000 * (Int32.toInt64 (if (1 : Int32) < p2 then p2 else 1))))))
set_option maxHeartbeats 4000000 in
set_option maxRecDepth 100000 in
theorem kX1_pressureOf (l : Launch) (D : va_G) (I O : ClassId) (sz : Nat) (p1 : Int64) (p2 : Int32) (Q : Int32 → Prop) (hw : qX1_pressureOf p1 p2 Q) : Met l yX1_pressureOf wsX1_pressureOf rX1_pressureOf (mPc D I O [.long p1, .int p2] ([]) sz) (va_Qi (fun r (_ : Unit) => Q r) (mB D (va_A ([]) sz) (fun _ => [])) (va_A ([]) sz)) 0 0 (va_A ([]) sz) := by
  refine m_start (by decide) rfl (Nat.le_of_ble_eq_true rfl) (fun p e s m below meth c ls H locs hx hb hr hml hts hown hlocks hnm hK hP hD hA hS hl => ?_)
  have hown : s.vm.findClass RX1 = some m.cls := hown
  have hl : lv_has ls 3 [(0, .long p1), (2, .int p2)] := hl
  have f0 := hts (.constantLong RX1 124 (981)) (by decide +kernel)
  have f1 := hts (.constantLong RX1 126 (100000)) (by decide +kernel)
  have f2 := hts (.methodLink RX1 99 Lib.Math.max.name) (by decide +kernel)
  have f3 := hts (.static Lib.Math.max.name) (by decide +kernel)
  have f4 := hts (.initialized "java/lang/Math") (by decide +kernel)
  have f5 := hts (.code Lib.Math.max.name Lib.Math.max.code 2 (some .int)) (by decide +kernel)
  unfold qX1_pressureOf at hw
  refine lv_ldc2 (v := 981) hx hb hown f0 dX1_pressureOf_0 ?_
  refine lv_lload_n hx hb dX1_pressureOf_3 rfl (lv_at hl 0 rfl) ?_
  refine lv_lmul hx hb dX1_pressureOf_4 ?_
  refine lv_ldc2 (v := 100000) hx hb hown f1 dX1_pressureOf_5 ?_
  refine lv_iconst (v := 1) hx hb dX1_pressureOf_8 (by decide) ?_
  refine lv_iload_n hx hb dX1_pressureOf_9 rfl (lv_at hl 1 rfl) ?_
  refine va_mmax hx hb (hml.trans hl.1.symm) hown f2 f3 f4 f5 (Nat.le_of_ble_eq_true rfl) (Nat.le_of_ble_eq_true rfl) (Nat.le_of_ble_eq_true rfl) (Nat.le_of_ble_eq_true rfl) dX1_pressureOf_10 ?_
  refine lv_i2l (v := Int32.toInt64 (if (1 : Int32) < p2 then p2 else 1)) hx hb dX1_pressureOf_13 rfl ?_
  refine lv_lmul hx hb dX1_pressureOf_14 ?_
  obtain ⟨h1, hw⟩ := hw
  refine lv_ldiv hx hb dX1_pressureOf_15 h1 ?_
  refine lv_l2i (v := Int64.toInt32 ((981 * p1) / (100000 * (Int32.toInt64 (if (1 : Int32) < p2 then p2 else 1))))) hx hb dX1_pressureOf_16 rfl ?_
  exact m_iret (u := ()) hx hb hr hlocks hS hP hD dX1_pressureOf_17 hw
def qX1_pressureOfWhole (x : Wel) (p1 : Int32) (Q : Int32 → Prop) : Prop := ((p1 = 0 → (qX1_capacity x p1 (fun r2 => (qX1_pressureOf (zL (yP x)) r2 (fun r3 => Q r3))))) ∧ (¬ p1 = 0 → (qX1_capacity x p1 (fun r4 => (qX1_pressureOf (zL (yA x)) r4 (fun r5 => Q r5))))))
set_option maxHeartbeats 4000000 in
set_option maxRecDepth 100000 in
theorem kX1_pressureOfWhole (l : Launch) (D : va_G) (I O : ClassId) (a : WA) (sz : Nat) (x : Wel) (p1 : Int32) (Q : Int32 → Prop) (hw : qX1_pressureOfWhole x p1 Q) : Met l yX1_pressureOfWhole wsX1_pressureOfWhole rX1_pressureOfWhole (mPc D I O [.ref a.1, .int p1] (welB I a x) sz) (va_Qi (fun r (_ : Unit) => Q r) (mB D (va_A (welB I a x) sz) (fun _ => welB I a x)) (va_A (welB I a x) sz)) 0 0 (va_A (welB I a x) sz) := by
  refine m_start (by decide) rfl (Nat.le_of_ble_eq_true rfl) (fun p e s m below meth c ls H locs hx hb hr hml hts hown hlocks hnm hK hP hD hA hS hl => ?_)
  have hown : s.vm.findClass RX1 = some m.cls := hown
  have hl : lv_has ls 2 [(0, .ref a.1), (1, .int p1)] := hl
  have hiX0 : ∀ w ∈ wsX00, w ∈ wsX1_pressureOfWhole := by decide +kernel
  have f0 := hts (.fieldLink RX1 108 "WellControl$Column" "load" "J") (by decide +kernel)
  unfold qX1_pressureOfWhole at hw
  refine lv_aload_n hx hb dX1_pressureOfWhole_0 rfl (lv_at hl 0 rfl) ?_
  refine lv_iload_n hx hb dX1_pressureOfWhole_1 rfl (lv_at hl 1 rfl) ?_
  by_cases c1 : p1 = 0
  · have hw := hw.1 c1
    refine mw_r (mv_V (As := [.int p1]) (rest := []) ⟨hx, hb, hml, hown, hts⟩ (kX1_column_p l D I O a H.size x p1 _ c1 hw) (cwV 1 hts gX1_pressureOfWhole_X1_column rfl rfl rfl hdVX1_column ⟨(Nat.le_of_ble_eq_true rfl), (Nat.le_of_ble_eq_true rfl)⟩) hK hP hD 0 1 rfl rfl rfl rfl hl.1 rfl (Nat.le_of_ble_eq_true rfl) dX1_pressureOfWhole_2 ⟨(Nat.le_of_ble_eq_true rfl), (Nat.le_of_ble_eq_true rfl)⟩) hP hD hS hA (fun _ H locs hw hP hD hS => ?_)
    have hP : va_P D vwCl (welB I a x) H := hP
    have hD : va_D (va_A (welB I a x) sz) (welB I a x) := hD
    refine va_get (ci := 0) (v := .long (zL (yP x))) (C := RX0) (T := TX0) (N := 6) hx hb hts hiX0 hown hK.1 hP 1 rfl rfl 5 (by decide) f0 (fun _ h9 => h9) rfl dX1_pressureOfWhole_5 ?_
    refine lv_aload_n hx hb dX1_pressureOfWhole_8 rfl (lv_at hl 0 rfl) ?_
    refine lv_iload_n hx hb dX1_pressureOfWhole_9 rfl (lv_at hl 1 rfl) ?_
    refine mw_i (mv_V (As := [.int p1]) (rest := [.long (zL (yP x))]) ⟨hx, hb, hml, hown, hts⟩ (kX1_capacity l D I O a H.size x p1 _ hw) (cwV 1 hts gX1_pressureOfWhole_X1_capacity rfl rfl rfl hdVX1_capacity ⟨(Nat.le_of_ble_eq_true rfl), (Nat.le_of_ble_eq_true rfl)⟩) hK hP hD 0 1 rfl rfl rfl rfl hl.1 rfl (Nat.le_of_ble_eq_true rfl) dX1_pressureOfWhole_10 ⟨(Nat.le_of_ble_eq_true rfl), (Nat.le_of_ble_eq_true rfl)⟩) hP hD hS hA (fun r2 _ H locs hw hP hD hS => ?_)
    have hP : va_P D vwCl (welB I a x) H := hP
    have hD : va_D (va_A (welB I a x) sz) (welB I a x) := hD
    refine m0_i (mv_S (As := [.long (zL (yP x)), .int r2]) (rest := []) ⟨hx, hb, hml, hown, hts⟩ (kX1_pressureOf l D I O H.size (zL (yP x)) r2 _ hw) (va_cwS 2 hts gX1_pressureOfWhole_X1_pressureOf rfl rfl rfl hdSX1_pressureOf ⟨(Nat.le_of_ble_eq_true rfl), (Nat.le_of_ble_eq_true rfl)⟩) hK (nil_P (D := D) (H := H)) (nil_D (A := va_A (welB I a x) sz)) rfl hl.1 rfl (Nat.le_of_ble_eq_true rfl) dX1_pressureOfWhole_13 ⟨(Nat.le_of_ble_eq_true rfl), (Nat.le_of_ble_eq_true rfl)⟩) hP hD hS hA (fun r3 _ H locs hw hP hD hS => ?_)
    exact m_iret (u := ()) hx hb hr hlocks hS hP hD dX1_pressureOfWhole_16 hw
  · have hw := hw.2 c1
    refine mw_r (mv_V (As := [.int p1]) (rest := []) ⟨hx, hb, hml, hown, hts⟩ (kX1_column_n l D I O a H.size x p1 _ c1 hw) (cwV 1 hts gX1_pressureOfWhole_X1_column rfl rfl rfl hdVX1_column ⟨(Nat.le_of_ble_eq_true rfl), (Nat.le_of_ble_eq_true rfl)⟩) hK hP hD 0 1 rfl rfl rfl rfl hl.1 rfl (Nat.le_of_ble_eq_true rfl) dX1_pressureOfWhole_2 ⟨(Nat.le_of_ble_eq_true rfl), (Nat.le_of_ble_eq_true rfl)⟩) hP hD hS hA (fun _ H locs hw hP hD hS => ?_)
    have hP : va_P D vwCl (welB I a x) H := hP
    have hD : va_D (va_A (welB I a x) sz) (welB I a x) := hD
    refine va_get (ci := 0) (v := .long (zL (yA x))) (C := RX0) (T := TX0) (N := 6) hx hb hts hiX0 hown hK.1 hP 4 rfl rfl 5 (by decide) f0 (fun _ h9 => h9) rfl dX1_pressureOfWhole_5 ?_
    refine lv_aload_n hx hb dX1_pressureOfWhole_8 rfl (lv_at hl 0 rfl) ?_
    refine lv_iload_n hx hb dX1_pressureOfWhole_9 rfl (lv_at hl 1 rfl) ?_
    refine mw_i (mv_V (As := [.int p1]) (rest := [.long (zL (yA x))]) ⟨hx, hb, hml, hown, hts⟩ (kX1_capacity l D I O a H.size x p1 _ hw) (cwV 1 hts gX1_pressureOfWhole_X1_capacity rfl rfl rfl hdVX1_capacity ⟨(Nat.le_of_ble_eq_true rfl), (Nat.le_of_ble_eq_true rfl)⟩) hK hP hD 0 1 rfl rfl rfl rfl hl.1 rfl (Nat.le_of_ble_eq_true rfl) dX1_pressureOfWhole_10 ⟨(Nat.le_of_ble_eq_true rfl), (Nat.le_of_ble_eq_true rfl)⟩) hP hD hS hA (fun r4 _ H locs hw hP hD hS => ?_)
    have hP : va_P D vwCl (welB I a x) H := hP
    have hD : va_D (va_A (welB I a x) sz) (welB I a x) := hD
    refine m0_i (mv_S (As := [.long (zL (yA x)), .int r4]) (rest := []) ⟨hx, hb, hml, hown, hts⟩ (kX1_pressureOf l D I O H.size (zL (yA x)) r4 _ hw) (va_cwS 2 hts gX1_pressureOfWhole_X1_pressureOf rfl rfl rfl hdSX1_pressureOf ⟨(Nat.le_of_ble_eq_true rfl), (Nat.le_of_ble_eq_true rfl)⟩) hK (nil_P (D := D) (H := H)) (nil_D (A := va_A (welB I a x) sz)) rfl hl.1 rfl (Nat.le_of_ble_eq_true rfl) dX1_pressureOfWhole_13 ⟨(Nat.le_of_ble_eq_true rfl), (Nat.le_of_ble_eq_true rfl)⟩) hP hD hS hA (fun r5 _ H locs hw hP hD hS => ?_)
    exact m_iret (u := ()) hx hb hr hlocks hS hP hD dX1_pressureOfWhole_16 hw
def qX1_pressureOfPart (x : Wel) (p1 : Int32) (p2 : Int32) (Q : Int32 → Prop) : Prop := (qX1_capacity x p1 (fun r1 => ((p1 = 0 → (qX0_loadAbove (yP x) (p2 * r1) (fun r3 => (qX1_pressureOf r3 r1 (fun r4 => Q r4))))) ∧ (¬ p1 = 0 → (qX0_loadAbove (yA x) (p2 * r1) (fun r5 => (qX1_pressureOf r5 r1 (fun r6 => Q r6))))))))
set_option maxHeartbeats 4000000 in
set_option maxRecDepth 100000 in
theorem kX1_pressureOfPart (l : Launch) (D : va_G) (I O : ClassId) (a : WA) (sz : Nat) (x : Wel) (p1 : Int32) (p2 : Int32) (Q : Int32 → Prop) (hw : qX1_pressureOfPart x p1 p2 Q) : Met l yX1_pressureOfPart wsX1_pressureOfPart rX1_pressureOfPart (mPc D I O [.ref a.1, .int p1, .int p2] (welB I a x) sz) (va_Qi (fun r (_ : Unit) => Q r) (mB D (va_A (welB I a x) sz) (fun _ => welB I a x)) (va_A (welB I a x) sz)) 0 0 (va_A (welB I a x) sz) := by
  refine m_start (by decide) rfl (Nat.le_of_ble_eq_true rfl) (fun p e s m below meth c ls H locs hx hb hr hml hts hown hlocks hnm hK hP hD hA hS hl => ?_)
  have hown : s.vm.findClass RX1 = some m.cls := hown
  have hl : lv_has ls 4 [(0, .ref a.1), (1, .int p1), (2, .int p2)] := hl
  unfold qX1_pressureOfPart at hw
  refine lv_aload_n hx hb dX1_pressureOfPart_0 rfl (lv_at hl 0 rfl) ?_
  refine lv_iload_n hx hb dX1_pressureOfPart_1 rfl (lv_at hl 1 rfl) ?_
  refine mw_i (mv_V (As := [.int p1]) (rest := []) ⟨hx, hb, hml, hown, hts⟩ (kX1_capacity l D I O a H.size x p1 _ hw) (cwV 1 hts gX1_pressureOfPart_X1_capacity rfl rfl rfl hdVX1_capacity ⟨(Nat.le_of_ble_eq_true rfl), (Nat.le_of_ble_eq_true rfl)⟩) hK hP hD 0 1 rfl rfl rfl rfl hl.1 rfl (Nat.le_of_ble_eq_true rfl) dX1_pressureOfPart_2 ⟨(Nat.le_of_ble_eq_true rfl), (Nat.le_of_ble_eq_true rfl)⟩) hP hD hS hA (fun r1 _ H locs hw hP hD hS => ?_)
  have hP : va_P D vwCl (welB I a x) H := hP
  have hD : va_D (va_A (welB I a x) sz) (welB I a x) := hD
  refine lv_istore_n (lv' := [(3, .int r1), (0, .ref a.1), (1, .int p1), (2, .int p2)]) hx hb dX1_pressureOfPart_5 rfl hl (by decide) rfl (fun ls hl => ?_)
  refine lv_aload_n hx hb dX1_pressureOfPart_6 rfl (lv_at hl 1 rfl) ?_
  refine lv_iload_n hx hb dX1_pressureOfPart_7 rfl (lv_at hl 2 rfl) ?_
  by_cases c2 : p1 = 0
  · have hw := hw.1 c2
    refine mw_r (mv_V (As := [.int p1]) (rest := []) ⟨hx, hb, hml, hown, hts⟩ (kX1_column_p l D I O a H.size x p1 _ c2 hw) (cwV 1 hts gX1_pressureOfPart_X1_column rfl rfl rfl hdVX1_column ⟨(Nat.le_of_ble_eq_true rfl), (Nat.le_of_ble_eq_true rfl)⟩) hK hP hD 0 1 rfl rfl rfl rfl hl.1 rfl (Nat.le_of_ble_eq_true rfl) dX1_pressureOfPart_8 ⟨(Nat.le_of_ble_eq_true rfl), (Nat.le_of_ble_eq_true rfl)⟩) hP hD hS hA (fun _ H locs hw hP hD hS => ?_)
    have hP : va_P D vwCl (welB I a x) H := hP
    have hD : va_D (va_A (welB I a x) sz) (welB I a x) := hD
    refine lv_iload_n hx hb dX1_pressureOfPart_11 rfl (lv_at hl 3 rfl) ?_
    refine lv_iload_n hx hb dX1_pressureOfPart_12 rfl (lv_at hl 0 rfl) ?_
    refine lv_imul hx hb dX1_pressureOfPart_13 ?_
    have hPc := va_P.mid (X := [welO a x]) (wc := colB I a.2.1 (yP x)) (Y := colB I a.2.2 (yA x)) hP
    have hDc := va_D.mid (X := [welO a x]) (wc := colB I a.2.1 (yP x)) (Y := colB I a.2.2 (yA x)) hD
    refine mc_l ([welO a x]) (colB I a.2.2 (yA x)) (mv_V (As := [.int (p2 * r1)]) (rest := []) ⟨hx, hb, hml, hown, hts⟩ (kX0_loadAbove l D I O a.2.1 H.size (yP x) (p2 * r1) _ hw) (cwV 1 hts gX1_pressureOfPart_X0_loadAbove rfl rfl rfl hdVX0_loadAbove ⟨(Nat.le_of_ble_eq_true rfl), (Nat.le_of_ble_eq_true rfl)⟩) hK hPc hDc 0 0 rfl rfl rfl rfl hl.1 rfl (Nat.le_of_ble_eq_true rfl) dX1_pressureOfPart_14 ⟨(Nat.le_of_ble_eq_true rfl), (Nat.le_of_ble_eq_true rfl)⟩) hP hD hS hA (fun r3 _ H locs hw hP hD hS => ?_)
    have hP : va_P D vwCl (welB I a x) H := hP
    have hD : va_D (va_A (welB I a x) sz) (welB I a x) := hD
    refine lv_iload_n hx hb dX1_pressureOfPart_17 rfl (lv_at hl 0 rfl) ?_
    refine m0_i (mv_S (As := [.long r3, .int r1]) (rest := []) ⟨hx, hb, hml, hown, hts⟩ (kX1_pressureOf l D I O H.size r3 r1 _ hw) (va_cwS 2 hts gX1_pressureOfPart_X1_pressureOf rfl rfl rfl hdSX1_pressureOf ⟨(Nat.le_of_ble_eq_true rfl), (Nat.le_of_ble_eq_true rfl)⟩) hK (nil_P (D := D) (H := H)) (nil_D (A := va_A (welB I a x) sz)) rfl hl.1 rfl (Nat.le_of_ble_eq_true rfl) dX1_pressureOfPart_18 ⟨(Nat.le_of_ble_eq_true rfl), (Nat.le_of_ble_eq_true rfl)⟩) hP hD hS hA (fun r4 _ H locs hw hP hD hS => ?_)
    exact m_iret (u := ()) hx hb hr hlocks hS hP hD dX1_pressureOfPart_21 hw
  · have hw := hw.2 c2
    refine mw_r (mv_V (As := [.int p1]) (rest := []) ⟨hx, hb, hml, hown, hts⟩ (kX1_column_n l D I O a H.size x p1 _ c2 hw) (cwV 1 hts gX1_pressureOfPart_X1_column rfl rfl rfl hdVX1_column ⟨(Nat.le_of_ble_eq_true rfl), (Nat.le_of_ble_eq_true rfl)⟩) hK hP hD 0 1 rfl rfl rfl rfl hl.1 rfl (Nat.le_of_ble_eq_true rfl) dX1_pressureOfPart_8 ⟨(Nat.le_of_ble_eq_true rfl), (Nat.le_of_ble_eq_true rfl)⟩) hP hD hS hA (fun _ H locs hw hP hD hS => ?_)
    have hP : va_P D vwCl (welB I a x) H := hP
    have hD : va_D (va_A (welB I a x) sz) (welB I a x) := hD
    refine lv_iload_n hx hb dX1_pressureOfPart_11 rfl (lv_at hl 3 rfl) ?_
    refine lv_iload_n hx hb dX1_pressureOfPart_12 rfl (lv_at hl 0 rfl) ?_
    refine lv_imul hx hb dX1_pressureOfPart_13 ?_
    have hPc := va_P.mid (X := welO a x :: colB I a.2.1 (yP x)) (wc := colB I a.2.2 (yA x)) (Y := []) hP
    have hDc := va_D.mid (X := welO a x :: colB I a.2.1 (yP x)) (wc := colB I a.2.2 (yA x)) (Y := []) hD
    refine mc_l (welO a x :: colB I a.2.1 (yP x)) ([]) (mv_V (As := [.int (p2 * r1)]) (rest := []) ⟨hx, hb, hml, hown, hts⟩ (kX0_loadAbove l D I O a.2.2 H.size (yA x) (p2 * r1) _ hw) (cwV 1 hts gX1_pressureOfPart_X0_loadAbove rfl rfl rfl hdVX0_loadAbove ⟨(Nat.le_of_ble_eq_true rfl), (Nat.le_of_ble_eq_true rfl)⟩) hK hPc hDc 0 0 rfl rfl rfl rfl hl.1 rfl (Nat.le_of_ble_eq_true rfl) dX1_pressureOfPart_14 ⟨(Nat.le_of_ble_eq_true rfl), (Nat.le_of_ble_eq_true rfl)⟩) hP hD hS hA (fun r5 _ H locs hw hP hD hS => ?_)
    have hP : va_P D vwCl (welB I a x) H := hP
    have hD : va_D (va_A (welB I a x) sz) (welB I a x) := hD
    refine lv_iload_n hx hb dX1_pressureOfPart_17 rfl (lv_at hl 0 rfl) ?_
    refine m0_i (mv_S (As := [.long r5, .int r1]) (rest := []) ⟨hx, hb, hml, hown, hts⟩ (kX1_pressureOf l D I O H.size r5 r1 _ hw) (va_cwS 2 hts gX1_pressureOfPart_X1_pressureOf rfl rfl rfl hdSX1_pressureOf ⟨(Nat.le_of_ble_eq_true rfl), (Nat.le_of_ble_eq_true rfl)⟩) hK (nil_P (D := D) (H := H)) (nil_D (A := va_A (welB I a x) sz)) rfl hl.1 rfl (Nat.le_of_ble_eq_true rfl) dX1_pressureOfPart_18 ⟨(Nat.le_of_ble_eq_true rfl), (Nat.le_of_ble_eq_true rfl)⟩) hP hD hS hA (fun r6 _ H locs hw hP hD hS => ?_)
    exact m_iret (u := ()) hx hb hr hlocks hS hP hD dX1_pressureOfPart_21 hw
def qX1_pressureAtPipe (x : Wel) (Q : Int32 → Prop) : Prop := (qX1_pressureOfWhole x 0 (fun r1 => Q (if (0 : Int32) < ((y5 x) - r1) then ((y5 x) - r1) else 0)))
set_option maxHeartbeats 4000000 in
set_option maxRecDepth 100000 in
theorem kX1_pressureAtPipe (l : Launch) (D : va_G) (I O : ClassId) (a : WA) (sz : Nat) (x : Wel) (Q : Int32 → Prop) (hw : qX1_pressureAtPipe x Q) : Met l yX1_pressureAtPipe wsX1_pressureAtPipe rX1_pressureAtPipe (mPc D I O [.ref a.1] (welB I a x) sz) (va_Qi (fun r (_ : Unit) => Q r) (mB D (va_A (welB I a x) sz) (fun _ => welB I a x)) (va_A (welB I a x) sz)) 0 0 (va_A (welB I a x) sz) := by
  refine m_start (by decide) rfl (Nat.le_of_ble_eq_true rfl) (fun p e s m below meth c ls H locs hx hb hr hml hts hown hlocks hnm hK hP hD hA hS hl => ?_)
  have hown : s.vm.findClass RX1 = some m.cls := hown
  have hl : lv_has ls 1 [(0, .ref a.1)] := hl
  have hiX1 : ∀ w ∈ wsX10, w ∈ wsX1_pressureAtPipe := by decide +kernel
  have f0 := hts (.fieldLink RX1 27 "WellControl$Well" "formation" "I") (by decide +kernel)
  have f1 := hts (.methodLink RX1 99 Lib.Math.max.name) (by decide +kernel)
  have f2 := hts (.static Lib.Math.max.name) (by decide +kernel)
  have f3 := hts (.initialized "java/lang/Math") (by decide +kernel)
  have f4 := hts (.code Lib.Math.max.name Lib.Math.max.code 2 (some .int)) (by decide +kernel)
  unfold qX1_pressureAtPipe at hw
  refine lv_iconst (v := 0) hx hb dX1_pressureAtPipe_0 (by decide) ?_
  refine lv_aload_n hx hb dX1_pressureAtPipe_1 rfl (lv_at hl 0 rfl) ?_
  refine va_get (ci := 1) (v := .int (y5 x)) (C := RX1) (T := TX1) (N := 13) hx hb hts hiX1 hown hK.1 hP 0 rfl rfl 5 (by decide) f0 (fun _ h9 => h9) rfl dX1_pressureAtPipe_2 ?_
  refine lv_aload_n hx hb dX1_pressureAtPipe_5 rfl (lv_at hl 0 rfl) ?_
  refine lv_iconst (v := 0) hx hb dX1_pressureAtPipe_6 (by decide) ?_
  refine mw_i (mv_V (As := [.int 0]) (rest := [.int (y5 x), .int 0]) ⟨hx, hb, hml, hown, hts⟩ (kX1_pressureOfWhole l D I O a H.size x 0 _ hw) (cwV 1 hts gX1_pressureAtPipe_X1_pressureOfWhole rfl rfl rfl hdVX1_pressureOfWhole ⟨(Nat.le_of_ble_eq_true rfl), (Nat.le_of_ble_eq_true rfl)⟩) hK hP hD 0 1 rfl rfl rfl rfl hl.1 rfl (Nat.le_of_ble_eq_true rfl) dX1_pressureAtPipe_7 ⟨(Nat.le_of_ble_eq_true rfl), (Nat.le_of_ble_eq_true rfl)⟩) hP hD hS hA (fun r1 _ H locs hw hP hD hS => ?_)
  have hP : va_P D vwCl (welB I a x) H := hP
  have hD : va_D (va_A (welB I a x) sz) (welB I a x) := hD
  refine lv_isub hx hb dX1_pressureAtPipe_10 ?_
  refine va_mmax hx hb (hml.trans hl.1.symm) hown f1 f2 f3 f4 (Nat.le_of_ble_eq_true rfl) (Nat.le_of_ble_eq_true rfl) (Nat.le_of_ble_eq_true rfl) (Nat.le_of_ble_eq_true rfl) dX1_pressureAtPipe_11 ?_
  exact m_iret (u := ()) hx hb hr hlocks hS hP hD dX1_pressureAtPipe_14 hw
def qX1_pressureAtCasing (x : Wel) (Q : Int32 → Prop) : Prop := (qX1_pressureOfWhole x 1 (fun r1 => Q (if (0 : Int32) < ((y5 x) - r1) then ((y5 x) - r1) else 0)))
set_option maxHeartbeats 4000000 in
set_option maxRecDepth 100000 in
theorem kX1_pressureAtCasing (l : Launch) (D : va_G) (I O : ClassId) (a : WA) (sz : Nat) (x : Wel) (Q : Int32 → Prop) (hw : qX1_pressureAtCasing x Q) : Met l yX1_pressureAtCasing wsX1_pressureAtCasing rX1_pressureAtCasing (mPc D I O [.ref a.1] (welB I a x) sz) (va_Qi (fun r (_ : Unit) => Q r) (mB D (va_A (welB I a x) sz) (fun _ => welB I a x)) (va_A (welB I a x) sz)) 0 0 (va_A (welB I a x) sz) := by
  refine m_start (by decide) rfl (Nat.le_of_ble_eq_true rfl) (fun p e s m below meth c ls H locs hx hb hr hml hts hown hlocks hnm hK hP hD hA hS hl => ?_)
  have hown : s.vm.findClass RX1 = some m.cls := hown
  have hl : lv_has ls 1 [(0, .ref a.1)] := hl
  have hiX1 : ∀ w ∈ wsX10, w ∈ wsX1_pressureAtCasing := by decide +kernel
  have f0 := hts (.fieldLink RX1 27 "WellControl$Well" "formation" "I") (by decide +kernel)
  have f1 := hts (.methodLink RX1 99 Lib.Math.max.name) (by decide +kernel)
  have f2 := hts (.static Lib.Math.max.name) (by decide +kernel)
  have f3 := hts (.initialized "java/lang/Math") (by decide +kernel)
  have f4 := hts (.code Lib.Math.max.name Lib.Math.max.code 2 (some .int)) (by decide +kernel)
  unfold qX1_pressureAtCasing at hw
  refine lv_iconst (v := 0) hx hb dX1_pressureAtCasing_0 (by decide) ?_
  refine lv_aload_n hx hb dX1_pressureAtCasing_1 rfl (lv_at hl 0 rfl) ?_
  refine va_get (ci := 1) (v := .int (y5 x)) (C := RX1) (T := TX1) (N := 13) hx hb hts hiX1 hown hK.1 hP 0 rfl rfl 5 (by decide) f0 (fun _ h9 => h9) rfl dX1_pressureAtCasing_2 ?_
  refine lv_aload_n hx hb dX1_pressureAtCasing_5 rfl (lv_at hl 0 rfl) ?_
  refine lv_iconst (v := 1) hx hb dX1_pressureAtCasing_6 (by decide) ?_
  refine mw_i (mv_V (As := [.int 1]) (rest := [.int (y5 x), .int 0]) ⟨hx, hb, hml, hown, hts⟩ (kX1_pressureOfWhole l D I O a H.size x 1 _ hw) (cwV 1 hts gX1_pressureAtCasing_X1_pressureOfWhole rfl rfl rfl hdVX1_pressureOfWhole ⟨(Nat.le_of_ble_eq_true rfl), (Nat.le_of_ble_eq_true rfl)⟩) hK hP hD 0 1 rfl rfl rfl rfl hl.1 rfl (Nat.le_of_ble_eq_true rfl) dX1_pressureAtCasing_7 ⟨(Nat.le_of_ble_eq_true rfl), (Nat.le_of_ble_eq_true rfl)⟩) hP hD hS hA (fun r1 _ H locs hw hP hD hS => ?_)
  have hP : va_P D vwCl (welB I a x) H := hP
  have hD : va_D (va_A (welB I a x) sz) (welB I a x) := hD
  refine lv_isub hx hb dX1_pressureAtCasing_10 ?_
  refine va_mmax hx hb (hml.trans hl.1.symm) hown f1 f2 f3 f4 (Nat.le_of_ble_eq_true rfl) (Nat.le_of_ble_eq_true rfl) (Nat.le_of_ble_eq_true rfl) (Nat.le_of_ble_eq_true rfl) dX1_pressureAtCasing_11 ?_
  exact m_iret (u := ()) hx hb hr hlocks hS hP hD dX1_pressureAtCasing_14 hw
def qX1_pressureAtStandpipe (x : Wel) (Q : Int32 → Prop) : Prop := (qX1_pressureAtPipe x (fun r1 => Q ((y6 x) + r1)))
set_option maxHeartbeats 4000000 in
set_option maxRecDepth 100000 in
theorem kX1_pressureAtStandpipe (l : Launch) (D : va_G) (I O : ClassId) (a : WA) (sz : Nat) (x : Wel) (Q : Int32 → Prop) (hw : qX1_pressureAtStandpipe x Q) : Met l yX1_pressureAtStandpipe wsX1_pressureAtStandpipe rX1_pressureAtStandpipe (mPc D I O [.ref a.1] (welB I a x) sz) (va_Qi (fun r (_ : Unit) => Q r) (mB D (va_A (welB I a x) sz) (fun _ => welB I a x)) (va_A (welB I a x) sz)) 0 0 (va_A (welB I a x) sz) := by
  refine m_start (by decide) rfl (Nat.le_of_ble_eq_true rfl) (fun p e s m below meth c ls H locs hx hb hr hml hts hown hlocks hnm hK hP hD hA hS hl => ?_)
  have hown : s.vm.findClass RX1 = some m.cls := hown
  have hl : lv_has ls 1 [(0, .ref a.1)] := hl
  have hiX1 : ∀ w ∈ wsX10, w ∈ wsX1_pressureAtStandpipe := by decide +kernel
  have f0 := hts (.fieldLink RX1 30 "WellControl$Well" "slowPump" "I") (by decide +kernel)
  unfold qX1_pressureAtStandpipe at hw
  refine lv_aload_n hx hb dX1_pressureAtStandpipe_0 rfl (lv_at hl 0 rfl) ?_
  refine va_get (ci := 1) (v := .int (y6 x)) (C := RX1) (T := TX1) (N := 13) hx hb hts hiX1 hown hK.1 hP 0 rfl rfl 6 (by decide) f0 (fun _ h9 => h9) rfl dX1_pressureAtStandpipe_1 ?_
  refine lv_aload_n hx hb dX1_pressureAtStandpipe_4 rfl (lv_at hl 0 rfl) ?_
  refine mw_i (mv_V (As := []) (rest := [.int (y6 x)]) ⟨hx, hb, hml, hown, hts⟩ (kX1_pressureAtPipe l D I O a H.size x _ hw) (cwV 0 hts gX1_pressureAtStandpipe_X1_pressureAtPipe rfl rfl rfl hdVX1_pressureAtPipe ⟨(Nat.le_of_ble_eq_true rfl), (Nat.le_of_ble_eq_true rfl)⟩) hK hP hD 0 1 rfl rfl rfl rfl hl.1 rfl (Nat.le_of_ble_eq_true rfl) dX1_pressureAtStandpipe_5 ⟨(Nat.le_of_ble_eq_true rfl), (Nat.le_of_ble_eq_true rfl)⟩) hP hD hS hA (fun r1 _ H locs hw hP hD hS => ?_)
  have hP : va_P D vwCl (welB I a x) H := hP
  have hD : va_D (va_A (welB I a x) sz) (welB I a x) := hD
  refine lv_iadd hx hb dX1_pressureAtStandpipe_8 ?_
  exact m_iret (u := ()) hx hb hr hlocks hS hP hD dX1_pressureAtStandpipe_9 hw
def qX1_pressureAtShoe (x : Wel) (Q : Int32 → Prop) : Prop := (qX1_pressureAtCasing x (fun r1 => (qX1_pressureOfPart x 1 (y3 x) (fun r2 => Q (r1 + r2)))))
set_option maxHeartbeats 4000000 in
set_option maxRecDepth 100000 in
theorem kX1_pressureAtShoe (l : Launch) (D : va_G) (I O : ClassId) (a : WA) (sz : Nat) (x : Wel) (Q : Int32 → Prop) (hw : qX1_pressureAtShoe x Q) : Met l yX1_pressureAtShoe wsX1_pressureAtShoe rX1_pressureAtShoe (mPc D I O [.ref a.1] (welB I a x) sz) (va_Qi (fun r (_ : Unit) => Q r) (mB D (va_A (welB I a x) sz) (fun _ => welB I a x)) (va_A (welB I a x) sz)) 0 0 (va_A (welB I a x) sz) := by
  refine m_start (by decide) rfl (Nat.le_of_ble_eq_true rfl) (fun p e s m below meth c ls H locs hx hb hr hml hts hown hlocks hnm hK hP hD hA hS hl => ?_)
  have hown : s.vm.findClass RX1 = some m.cls := hown
  have hl : lv_has ls 1 [(0, .ref a.1)] := hl
  have hiX1 : ∀ w ∈ wsX10, w ∈ wsX1_pressureAtShoe := by decide +kernel
  have f0 := hts (.fieldLink RX1 21 "WellControl$Well" "shoe" "I") (by decide +kernel)
  unfold qX1_pressureAtShoe at hw
  refine lv_aload_n hx hb dX1_pressureAtShoe_0 rfl (lv_at hl 0 rfl) ?_
  refine mw_i (mv_V (As := []) (rest := []) ⟨hx, hb, hml, hown, hts⟩ (kX1_pressureAtCasing l D I O a H.size x _ hw) (cwV 0 hts gX1_pressureAtShoe_X1_pressureAtCasing rfl rfl rfl hdVX1_pressureAtCasing ⟨(Nat.le_of_ble_eq_true rfl), (Nat.le_of_ble_eq_true rfl)⟩) hK hP hD 0 1 rfl rfl rfl rfl hl.1 rfl (Nat.le_of_ble_eq_true rfl) dX1_pressureAtShoe_1 ⟨(Nat.le_of_ble_eq_true rfl), (Nat.le_of_ble_eq_true rfl)⟩) hP hD hS hA (fun r1 _ H locs hw hP hD hS => ?_)
  have hP : va_P D vwCl (welB I a x) H := hP
  have hD : va_D (va_A (welB I a x) sz) (welB I a x) := hD
  refine lv_aload_n hx hb dX1_pressureAtShoe_4 rfl (lv_at hl 0 rfl) ?_
  refine lv_iconst (v := 1) hx hb dX1_pressureAtShoe_5 (by decide) ?_
  refine lv_aload_n hx hb dX1_pressureAtShoe_6 rfl (lv_at hl 0 rfl) ?_
  refine va_get (ci := 1) (v := .int (y3 x)) (C := RX1) (T := TX1) (N := 13) hx hb hts hiX1 hown hK.1 hP 0 rfl rfl 3 (by decide) f0 (fun _ h9 => h9) rfl dX1_pressureAtShoe_7 ?_
  refine mw_i (mv_V (As := [.int 1, .int (y3 x)]) (rest := [.int r1]) ⟨hx, hb, hml, hown, hts⟩ (kX1_pressureOfPart l D I O a H.size x 1 (y3 x) _ hw) (cwV 2 hts gX1_pressureAtShoe_X1_pressureOfPart rfl rfl rfl hdVX1_pressureOfPart ⟨(Nat.le_of_ble_eq_true rfl), (Nat.le_of_ble_eq_true rfl)⟩) hK hP hD 0 1 rfl rfl rfl rfl hl.1 rfl (Nat.le_of_ble_eq_true rfl) dX1_pressureAtShoe_10 ⟨(Nat.le_of_ble_eq_true rfl), (Nat.le_of_ble_eq_true rfl)⟩) hP hD hS hA (fun r2 _ H locs hw hP hD hS => ?_)
  have hP : va_P D vwCl (welB I a x) H := hP
  have hD : va_D (va_A (welB I a x) sz) (welB I a x) := hD
  refine lv_iadd hx hb dX1_pressureAtShoe_13 ?_
  exact m_iret (u := ()) hx hb hr hlocks hS hP hD dX1_pressureAtShoe_14 hw
def qX1_checkShoe (x : Wel) (Q : Wel → Prop) : Prop := (qX1_pressureAtShoe x (fun r1 => ((r1 ≤ (y7 x) → Q (y0 x, y1 x, y2 x, y3 x, y4 x, y5 x, y6 x, y7 x, y8 x, y9 x, (if (y10 x) < r1 then r1 else (y10 x)), yP x, yA x)) ∧ (¬ r1 ≤ (y7 x) → Q (y0 x, y1 x, y2 x, y3 x, y4 x, y5 x, y6 x, y7 x, y8 x, (y9 x) + 1, (if (y10 x) < r1 then r1 else (y10 x)), yP x, yA x)))))
set_option maxHeartbeats 4000000 in
set_option maxRecDepth 100000 in
theorem kX1_checkShoe (l : Launch) (D : va_G) (I O : ClassId) (a : WA) (sz : Nat) (x : Wel) (Q : Wel → Prop) (hw : qX1_checkShoe x Q) : Met l yX1_checkShoe wsX1_checkShoe rX1_checkShoe (mPc D I O [.ref a.1] (welB I a x) sz) (va_Qv (fun (u : Wel) => Q u) (mB D (va_A (welB I a x) sz) (fun u => welB I a u)) (va_A (welB I a x) sz)) 0 0 (va_A (welB I a x) sz) := by
  refine m_start (by decide) rfl (Nat.le_of_ble_eq_true rfl) (fun p e s m below meth c ls H locs hx hb hr hml hts hown hlocks hnm hK hP hD hA hS hl => ?_)
  have hown : s.vm.findClass RX1 = some m.cls := hown
  have hl : lv_has ls 2 [(0, .ref a.1)] := hl
  have hiX1 : ∀ w ∈ wsX10, w ∈ wsX1_checkShoe := by decide +kernel
  have f0 := hts (.fieldLink RX1 33 "WellControl$Well" "fracture" "I") (by decide +kernel)
  have f1 := hts (.fieldLink RX1 71 "WellControl$Well" "greatestAtShoe" "I") (by decide +kernel)
  have f2 := hts (.methodLink RX1 99 Lib.Math.max.name) (by decide +kernel)
  have f3 := hts (.static Lib.Math.max.name) (by decide +kernel)
  have f4 := hts (.initialized "java/lang/Math") (by decide +kernel)
  have f5 := hts (.code Lib.Math.max.name Lib.Math.max.code 2 (some .int)) (by decide +kernel)
  have f6 := hts (.fieldLink RX1 68 "WellControl$Well" "timesBroken" "I") (by decide +kernel)
  unfold qX1_checkShoe at hw
  refine lv_aload_n hx hb dX1_checkShoe_0 rfl (lv_at hl 0 rfl) ?_
  refine mw_i (mv_V (As := []) (rest := []) ⟨hx, hb, hml, hown, hts⟩ (kX1_pressureAtShoe l D I O a H.size x _ hw) (cwV 0 hts gX1_checkShoe_X1_pressureAtShoe rfl rfl rfl hdVX1_pressureAtShoe ⟨(Nat.le_of_ble_eq_true rfl), (Nat.le_of_ble_eq_true rfl)⟩) hK hP hD 0 1 rfl rfl rfl rfl hl.1 rfl (Nat.le_of_ble_eq_true rfl) dX1_checkShoe_1 ⟨(Nat.le_of_ble_eq_true rfl), (Nat.le_of_ble_eq_true rfl)⟩) hP hD hS hA (fun r1 _ H locs hw hP hD hS => ?_)
  have hP : va_P D vwCl (welB I a x) H := hP
  have hD : va_D (va_A (welB I a x) sz) (welB I a x) := hD
  refine lv_istore_n (lv' := [(1, .int r1), (0, .ref a.1)]) hx hb dX1_checkShoe_4 rfl hl (by decide) rfl (fun ls hl => ?_)
  refine lv_iload_n hx hb dX1_checkShoe_5 rfl (lv_at hl 0 rfl) ?_
  refine lv_aload_n hx hb dX1_checkShoe_6 rfl (lv_at hl 1 rfl) ?_
  refine va_get (ci := 1) (v := .int (y7 x)) (C := RX1) (T := TX1) (N := 13) hx hb hts hiX1 hown hK.1 hP 0 rfl rfl 7 (by decide) f0 (fun _ h9 => h9) rfl dX1_checkShoe_7 ?_
  refine lv_icmp_le (tgt := 23) hx hb dX1_checkShoe_10 (by decide) (fun c2 => ?_) (fun c2 => ?_)
  · have hw := hw.1 c2
    refine lv_aload_n hx hb dX1_checkShoe_23 rfl (lv_at hl 1 rfl) ?_
    refine lv_aload_n hx hb dX1_checkShoe_24 rfl (lv_at hl 1 rfl) ?_
    refine va_get (ci := 1) (v := .int (y10 x)) (C := RX1) (T := TX1) (N := 13) hx hb hts hiX1 hown hK.1 hP 0 rfl rfl 10 (by decide) f1 (fun _ h9 => h9) rfl dX1_checkShoe_25 ?_
    refine lv_iload_n hx hb dX1_checkShoe_28 rfl (lv_at hl 0 rfl) ?_
    refine va_mmax hx hb (hml.trans hl.1.symm) hown f2 f3 f4 f5 (Nat.le_of_ble_eq_true rfl) (Nat.le_of_ble_eq_true rfl) (Nat.le_of_ble_eq_true rfl) (Nat.le_of_ble_eq_true rfl) dX1_checkShoe_29 ?_
    refine va_put (ci := 1) (v := .int (if (y10 x) < r1 then r1 else (y10 x))) (ty := .int) (C := RX1) (T := TX1) (N := 13) hx hb hts hiX1 tyX1 tyX1_ok nmX1 hown hK.1 hP hD hS 0 rfl rfl 10 (by decide) f1 (fun _ h9 => h9) rfl (by decide +kernel) rfl rfl (Nat.le_of_ble_eq_true rfl) dX1_checkShoe_32 (fun H locs hP hD hS => ?_)
    have hP : va_P D vwCl (welB I a (y0 x, y1 x, y2 x, y3 x, y4 x, y5 x, y6 x, y7 x, y8 x, y9 x, (if (y10 x) < r1 then r1 else (y10 x)), yP x, yA x)) H := hP
    have hD : va_D (va_A (welB I a x) sz) (welB I a (y0 x, y1 x, y2 x, y3 x, y4 x, y5 x, y6 x, y7 x, y8 x, y9 x, (if (y10 x) < r1 then r1 else (y10 x)), yP x, yA x)) := hD
    exact m_vret (u := (y0 x, y1 x, y2 x, y3 x, y4 x, y5 x, y6 x, y7 x, y8 x, y9 x, (if (y10 x) < r1 then r1 else (y10 x)), yP x, yA x)) hx hb hr hlocks hS hP hD dX1_checkShoe_35 hw
  · have hw := hw.2 c2
    refine lv_aload_n hx hb dX1_checkShoe_13 rfl (lv_at hl 1 rfl) ?_
    refine lv_dup hx hb dX1_checkShoe_14 rfl ?_
    refine va_get (ci := 1) (v := .int (y9 x)) (C := RX1) (T := TX1) (N := 13) hx hb hts hiX1 hown hK.1 hP 0 rfl rfl 9 (by decide) f6 (fun _ h9 => h9) rfl dX1_checkShoe_15 ?_
    refine lv_iconst (v := 1) hx hb dX1_checkShoe_18 (by decide) ?_
    refine lv_iadd hx hb dX1_checkShoe_19 ?_
    refine va_put (ci := 1) (v := .int ((y9 x) + 1)) (ty := .int) (C := RX1) (T := TX1) (N := 13) hx hb hts hiX1 tyX1 tyX1_ok nmX1 hown hK.1 hP hD hS 0 rfl rfl 9 (by decide) f6 (fun _ h9 => h9) rfl (by decide +kernel) rfl rfl (Nat.le_of_ble_eq_true rfl) dX1_checkShoe_20 (fun H locs hP hD hS => ?_)
    have hP : va_P D vwCl (welB I a (y0 x, y1 x, y2 x, y3 x, y4 x, y5 x, y6 x, y7 x, y8 x, (y9 x) + 1, y10 x, yP x, yA x)) H := hP
    have hD : va_D (va_A (welB I a x) sz) (welB I a (y0 x, y1 x, y2 x, y3 x, y4 x, y5 x, y6 x, y7 x, y8 x, (y9 x) + 1, y10 x, yP x, yA x)) := hD
    refine lv_aload_n hx hb dX1_checkShoe_23 rfl (lv_at hl 1 rfl) ?_
    refine lv_aload_n hx hb dX1_checkShoe_24 rfl (lv_at hl 1 rfl) ?_
    refine va_get (ci := 1) (v := .int (y10 x)) (C := RX1) (T := TX1) (N := 13) hx hb hts hiX1 hown hK.1 hP 0 rfl rfl 10 (by decide) f1 (fun _ h9 => h9) rfl dX1_checkShoe_25 ?_
    refine lv_iload_n hx hb dX1_checkShoe_28 rfl (lv_at hl 0 rfl) ?_
    refine va_mmax hx hb (hml.trans hl.1.symm) hown f2 f3 f4 f5 (Nat.le_of_ble_eq_true rfl) (Nat.le_of_ble_eq_true rfl) (Nat.le_of_ble_eq_true rfl) (Nat.le_of_ble_eq_true rfl) dX1_checkShoe_29 ?_
    refine va_put (ci := 1) (v := .int (if (y10 x) < r1 then r1 else (y10 x))) (ty := .int) (C := RX1) (T := TX1) (N := 13) hx hb hts hiX1 tyX1 tyX1_ok nmX1 hown hK.1 hP hD hS 0 rfl rfl 10 (by decide) f1 (fun _ h9 => h9) rfl (by decide +kernel) rfl rfl (Nat.le_of_ble_eq_true rfl) dX1_checkShoe_32 (fun H locs hP hD hS => ?_)
    have hP : va_P D vwCl (welB I a (y0 x, y1 x, y2 x, y3 x, y4 x, y5 x, y6 x, y7 x, y8 x, (y9 x) + 1, (if (y10 x) < r1 then r1 else (y10 x)), yP x, yA x)) H := hP
    have hD : va_D (va_A (welB I a x) sz) (welB I a (y0 x, y1 x, y2 x, y3 x, y4 x, y5 x, y6 x, y7 x, y8 x, (y9 x) + 1, (if (y10 x) < r1 then r1 else (y10 x)), yP x, yA x)) := hD
    exact m_vret (u := (y0 x, y1 x, y2 x, y3 x, y4 x, y5 x, y6 x, y7 x, y8 x, (y9 x) + 1, (if (y10 x) < r1 then r1 else (y10 x)), yP x, yA x)) hx hb hr hlocks hS hP hD dX1_checkShoe_35 hw
end
section
def qX2_portionsFor (p1 : Int32) (p2 : Int32) (Q : Int32 → Prop) : Prop := (∀ v1 : Int32, v1 = (if (1 : Int32) < p2 then p2 else 1) → (¬ v1 = 0 ∧ Q (((p1 + v1) - 1) / v1)))
set_option maxHeartbeats 4000000 in
set_option maxRecDepth 100000 in
theorem kX2_portionsFor (l : Launch) (D : va_G) (I O : ClassId) (sz : Nat) (p1 : Int32) (p2 : Int32) (Q : Int32 → Prop) (hw : qX2_portionsFor p1 p2 Q) : Met l yX2_portionsFor wsX2_portionsFor rX2_portionsFor (mPc D I O [.int p1, .int p2] ([]) sz) (va_Qi (fun r (_ : Unit) => Q r) (mB D (va_A ([]) sz) (fun _ => [])) (va_A ([]) sz)) 0 0 (va_A ([]) sz) := by
  refine m_start (by decide) rfl (Nat.le_of_ble_eq_true rfl) (fun p e s m below meth c ls H locs hx hb hr hml hts hown hlocks hnm hK hP hD hA hS hl => ?_)
  have hown : s.vm.findClass RX2 = some m.cls := hown
  have hl : lv_has ls 3 [(0, .int p1), (1, .int p2)] := hl
  have f0 := hts (.methodLink RX2 124 Lib.Math.max.name) (by decide +kernel)
  have f1 := hts (.static Lib.Math.max.name) (by decide +kernel)
  have f2 := hts (.initialized "java/lang/Math") (by decide +kernel)
  have f3 := hts (.code Lib.Math.max.name Lib.Math.max.code 2 (some .int)) (by decide +kernel)
  unfold qX2_portionsFor at hw
  refine lv_iconst (v := 1) hx hb dX2_portionsFor_0 (by decide) ?_
  refine lv_iload_n hx hb dX2_portionsFor_1 rfl (lv_at hl 1 rfl) ?_
  refine va_mmax hx hb (hml.trans hl.1.symm) hown f0 f1 f2 f3 (Nat.le_of_ble_eq_true rfl) (Nat.le_of_ble_eq_true rfl) (Nat.le_of_ble_eq_true rfl) (Nat.le_of_ble_eq_true rfl) dX2_portionsFor_2 ?_
  refine lv_topi (fun v1 ev1 => ?_)
  have hw := hw v1 ev1
  refine lv_istore_n (lv' := [(2, .int v1), (0, .int p1), (1, .int p2)]) hx hb dX2_portionsFor_5 rfl hl (by decide) rfl (fun ls hl => ?_)
  refine lv_iload_n hx hb dX2_portionsFor_6 rfl (lv_at hl 1 rfl) ?_
  refine lv_iload_n hx hb dX2_portionsFor_7 rfl (lv_at hl 0 rfl) ?_
  refine lv_iadd hx hb dX2_portionsFor_8 ?_
  refine lv_iconst (v := 1) hx hb dX2_portionsFor_9 (by decide) ?_
  refine lv_isub hx hb dX2_portionsFor_10 ?_
  refine lv_iload_n hx hb dX2_portionsFor_11 rfl (lv_at hl 0 rfl) ?_
  obtain ⟨h2, hw⟩ := hw
  refine lv_idiv hx hb dX2_portionsFor_12 h2 ?_
  exact m_iret (u := ()) hx hb hr hlocks hS hP hD dX2_portionsFor_13 hw
def qX1_circulateInSteps_L10  (K5 : Int32 → Wel → Prop) : Nat → Int32 → Wel → Prop
  | 0, _, _ => False
  | n7 + 1, i3, w4 => qX1_circulateInSteps_L10 K5 n7 i3 w4
def qX1_circulateInSteps (x : Wel) (p1 : Int32) (p2 : Int32) (p3 : Int32) (Q : Wel → Prop) : Prop := (qX2_portionsFor p1 p2 (fun r1 => (∃ n2, qX1_circulateInSteps_L10 (fun i3 w4 => Q w4) n2 0 x)))
set_option maxHeartbeats 4000000 in
set_option maxRecDepth 100000 in
theorem kX1_circulateInSteps (l : Launch) (D : va_G) (I O : ClassId) (a : WA) (sz : Nat) (x : Wel) (p1 : Int32) (p2 : Int32) (p3 : Int32) (Q : Wel → Prop) (hw : qX1_circulateInSteps x p1 p2 p3 Q) : Met l yX1_circulateInSteps wsX1_circulateInSteps rX1_circulateInSteps (mPc D I O [.ref a.1, .int p1, .int p2, .int p3] (welB I a x) sz) (va_Qv (fun (u : Wel) => Q u) (mB D (va_A (welB I a x) sz) (fun u => welB I a u)) (va_A (welB I a x) sz)) 0 0 (va_A (welB I a x) sz) := by
  refine m_start (by decide) rfl (Nat.le_of_ble_eq_true rfl) (fun p e s m below meth c ls H locs hx hb hr hml hts hown hlocks hnm hK hP hD hA hS hl => ?_)
  have hown : s.vm.findClass RX1 = some m.cls := hown
  have hl : lv_has ls 6 [(0, .ref a.1), (1, .int p1), (2, .int p2), (3, .int p3)] := hl
  have f0 := hts (.initialized RX2) (by decide +kernel)
  have f1 := hts (.static yX2_portionsFor) (by decide +kernel)
  unfold qX1_circulateInSteps at hw
  refine lv_iload_n hx hb dX1_circulateInSteps_0 rfl (lv_at hl 1 rfl) ?_
  refine lv_iload_n hx hb dX1_circulateInSteps_1 rfl (lv_at hl 2 rfl) ?_
  refine m0_i (mv_SN (As := [.int p1, .int p2]) (rest := []) ⟨hx, hb, hml, hown, hts⟩ (kX2_portionsFor l D I O H.size p1 p2 _ hw) (va_cnB 2 hts gX1_circulateInSteps_X2_portionsFor_n86 rfl rfl rfl hK.2.2.1 f0 hdSX2_portionsFor ⟨(Nat.le_of_ble_eq_true rfl), (Nat.le_of_ble_eq_true rfl)⟩) f1 hK (nil_P (D := D) (H := H)) (nil_D (A := va_A (welB I a x) sz)) rfl hl.1 rfl (Nat.le_of_ble_eq_true rfl) dX1_circulateInSteps_2 ⟨(Nat.le_of_ble_eq_true rfl), (Nat.le_of_ble_eq_true rfl)⟩) hP hD hS hA (fun r1 _ H locs hw hP hD hS => ?_)
  refine lv_istore (lv' := [(4, .int r1), (0, .ref a.1), (1, .int p1), (2, .int p2), (3, .int p3)]) hx hb dX1_circulateInSteps_5 hl (by decide) rfl (fun ls hl => ?_)
  refine lv_iconst (v := 0) hx hb dX1_circulateInSteps_7 (by decide) ?_
  refine lv_istore (lv' := [(5, .int 0), (4, .int r1), (0, .ref a.1), (1, .int p1), (2, .int p2), (3, .int p3)]) hx hb dX1_circulateInSteps_8 hl (by decide) rfl (fun ls hl => ?_)
  obtain ⟨n2, hw⟩ := hw
  have ky8 : ∀ (K5 : Int32 → Wel → Prop) (_ : ∀ (i3 : Int32) (w4 : Wel) (H : Heap) (locs : List Loc) (ls : Array Slot), va_P D vwCl (welB I a w4) H → va_D (va_A (welB I a x) sz) (welB I a w4) → va_S (va_A (welB I a x) sz) s.heap H locs → lv_has ls 6 [(5, .int i3), (4, .int r1), (0, .ref a.1), (1, .int p1), (2, .int p2), (3, .int p3)] → K5 i3 w4 → W p l e rX1_circulateInSteps s m ([.ref a.1, .int p1, .int p2, .int p3] : List Value).toArray below meth c H locs 0 0 (MQ below (va_Qv (fun (u : Wel) => Q u) (mB D (va_A (welB I a x) sz) (fun u => welB I a u)) (va_A (welB I a x) sz)) ([.ref a.1, .int p1, .int p2, .int p3] : List Value).toArray s 0 0 (va_A (welB I a x) sz)) (F0 m 33 ls [])) (n7 : Nat) (i3 : Int32) (w4 : Wel) (H : Heap) (locs : List Loc) (ls : Array Slot), va_P D vwCl (welB I a w4) H → va_D (va_A (welB I a x) sz) (welB I a w4) → va_S (va_A (welB I a x) sz) s.heap H locs → lv_has ls 6 [(5, .int i3), (4, .int r1), (0, .ref a.1), (1, .int p1), (2, .int p2), (3, .int p3)] → qX1_circulateInSteps_L10 K5 n7 i3 w4 → W p l e rX1_circulateInSteps s m ([.ref a.1, .int p1, .int p2, .int p3] : List Value).toArray below meth c H locs 0 0 (MQ below (va_Qv (fun (u : Wel) => Q u) (mB D (va_A (welB I a x) sz) (fun u => welB I a u)) (va_A (welB I a x) sz)) ([.ref a.1, .int p1, .int p2, .int p3] : List Value).toArray s 0 0 (va_A (welB I a x) sz)) (F0 m 10 ls []) := by
    intro K5 hx6 n7
    induction n7 with
    | zero =>
      intro i3 w4 H locs ls hP hD hS hl hw
      exact hw.elim
    | succ n7 ihn7 =>
      intro i3 w4 H locs ls hP hD hS hl hw
      unfold qX1_circulateInSteps_L10 at hw
      exact ihn7 i3 w4 H locs ls hP hD hS (lv_sub hl [0, 1, 2, 3, 4, 5] rfl) hw
  refine ky8 _ (fun i3 w4 H locs ls hP hD hS hl hw => ?_) n2 0 x H locs ls hP hD hS (lv_sub hl [0, 1, 2, 3, 4, 5] rfl) hw
  exact m_vret (u := w4) hx hb hr hlocks hS hP hD dX1_circulateInSteps_33 hw
def qX1_letIn (x : Wel) (p1 : Int32) (p2 : Int32) (Q : Wel → Prop) : Prop := (qX0_release (yA x) p1 (fun u1 => (qX0_enter u1 p1 p2 (fun u2 => Q (y0 x, y1 x, y2 x, y3 x, y4 x, y5 x, y6 x, y7 x, (y8 x) + p1, y9 x, y10 x, yP x, u2)))))
set_option maxHeartbeats 4000000 in
set_option maxRecDepth 100000 in
theorem kX1_letIn (l : Launch) (D : va_G) (I O : ClassId) (a : WA) (sz : Nat) (x : Wel) (p1 : Int32) (p2 : Int32) (Q : Wel → Prop) (hw : qX1_letIn x p1 p2 Q) : Met l yX1_letIn wsX1_letIn rX1_letIn (mPc D I O [.ref a.1, .int p1, .int p2] (welB I a x) sz) (va_Qv (fun (u : Wel) => Q u) (mB D (va_A (welB I a x) sz) (fun u => welB I a u)) (va_A (welB I a x) sz)) 0 0 (va_A (welB I a x) sz) := by
  refine m_start (by decide) rfl (Nat.le_of_ble_eq_true rfl) (fun p e s m below meth c ls H locs hx hb hr hml hts hown hlocks hnm hK hP hD hA hS hl => ?_)
  have hown : s.vm.findClass RX1 = some m.cls := hown
  have hl : lv_has ls 3 [(0, .ref a.1), (1, .int p1), (2, .int p2)] := hl
  have hiX1 : ∀ w ∈ wsX10, w ∈ wsX1_letIn := by decide +kernel
  have f0 := hts (.fieldLink RX1 45 "WellControl$Well" "annulus" "LWellControl$Column;") (by decide +kernel)
  have f1 := hts (.fieldLink RX1 65 "WellControl$Well" "gained" "I") (by decide +kernel)
  unfold qX1_letIn at hw
  refine lv_aload_n hx hb dX1_letIn_0 rfl (lv_at hl 0 rfl) ?_
  refine va_get (ci := 1) (v := .ref a.2.2.1) (C := RX1) (T := TX1) (N := 13) hx hb hts hiX1 hown hK.1 hP 0 rfl rfl 12 (by decide) f0 (fun _ h9 => h9) rfl dX1_letIn_1 ?_
  refine lv_iload_n hx hb dX1_letIn_4 rfl (lv_at hl 1 rfl) ?_
  have hPc := va_P.mid (X := welO a x :: colB I a.2.1 (yP x)) (wc := colB I a.2.2 (yA x)) (Y := []) hP
  have hDc := va_D.mid (X := welO a x :: colB I a.2.1 (yP x)) (wc := colB I a.2.2 (yA x)) (Y := []) hD
  refine mc_v (welO a x :: colB I a.2.1 (yP x)) ([]) (mv_V (As := [.int p1]) (rest := []) ⟨hx, hb, hml, hown, hts⟩ (kX0_release l D I O a.2.2 H.size (yA x) p1 _ hw) (cwV 1 hts gX1_letIn_X0_release rfl rfl rfl hdVX0_release ⟨(Nat.le_of_ble_eq_true rfl), (Nat.le_of_ble_eq_true rfl)⟩) hK hPc hDc 0 0 rfl rfl rfl rfl hl.1 rfl (Nat.le_of_ble_eq_true rfl) dX1_letIn_5 ⟨(Nat.le_of_ble_eq_true rfl), (Nat.le_of_ble_eq_true rfl)⟩) hP hD hS hA (fun u1 H locs hw hP hD hS => ?_)
  have hP : va_P D vwCl (welB I a (y0 x, y1 x, y2 x, y3 x, y4 x, y5 x, y6 x, y7 x, y8 x, y9 x, y10 x, yP x, u1)) H := hP
  have hD : va_D (va_A (welB I a x) sz) (welB I a (y0 x, y1 x, y2 x, y3 x, y4 x, y5 x, y6 x, y7 x, y8 x, y9 x, y10 x, yP x, u1)) := hD
  refine lv_aload_n hx hb dX1_letIn_8 rfl (lv_at hl 0 rfl) ?_
  refine va_get (ci := 1) (v := .ref a.2.2.1) (C := RX1) (T := TX1) (N := 13) hx hb hts hiX1 hown hK.1 hP 0 rfl rfl 12 (by decide) f0 (fun _ h9 => h9) rfl dX1_letIn_9 ?_
  refine lv_iload_n hx hb dX1_letIn_12 rfl (lv_at hl 1 rfl) ?_
  refine lv_iload_n hx hb dX1_letIn_13 rfl (lv_at hl 2 rfl) ?_
  have hPc := va_P.mid (X := welO a (y0 x, y1 x, y2 x, y3 x, y4 x, y5 x, y6 x, y7 x, y8 x, y9 x, y10 x, yP x, u1) :: colB I a.2.1 (yP x)) (wc := colB I a.2.2 u1) (Y := []) hP
  have hDc := va_D.mid (X := welO a (y0 x, y1 x, y2 x, y3 x, y4 x, y5 x, y6 x, y7 x, y8 x, y9 x, y10 x, yP x, u1) :: colB I a.2.1 (yP x)) (wc := colB I a.2.2 u1) (Y := []) hD
  refine mc_v (welO a (y0 x, y1 x, y2 x, y3 x, y4 x, y5 x, y6 x, y7 x, y8 x, y9 x, y10 x, yP x, u1) :: colB I a.2.1 (yP x)) ([]) (mv_V (As := [.int p1, .int p2]) (rest := []) ⟨hx, hb, hml, hown, hts⟩ (kX0_enter l D I O a.2.2 H.size u1 p1 p2 _ hw) (cwV 2 hts gX1_letIn_X0_enter rfl rfl rfl hdVX0_enter ⟨(Nat.le_of_ble_eq_true rfl), (Nat.le_of_ble_eq_true rfl)⟩) hK hPc hDc 0 0 rfl rfl rfl rfl hl.1 rfl (Nat.le_of_ble_eq_true rfl) dX1_letIn_14 ⟨(Nat.le_of_ble_eq_true rfl), (Nat.le_of_ble_eq_true rfl)⟩) hP hD hS hA (fun u2 H locs hw hP hD hS => ?_)
  have hP : va_P D vwCl (welB I a (y0 x, y1 x, y2 x, y3 x, y4 x, y5 x, y6 x, y7 x, y8 x, y9 x, y10 x, yP x, u2)) H := hP
  have hD : va_D (va_A (welB I a x) sz) (welB I a (y0 x, y1 x, y2 x, y3 x, y4 x, y5 x, y6 x, y7 x, y8 x, y9 x, y10 x, yP x, u2)) := hD
  refine lv_aload_n hx hb dX1_letIn_17 rfl (lv_at hl 0 rfl) ?_
  refine lv_dup hx hb dX1_letIn_18 rfl ?_
  refine va_get (ci := 1) (v := .int (y8 x)) (C := RX1) (T := TX1) (N := 13) hx hb hts hiX1 hown hK.1 hP 0 rfl rfl 8 (by decide) f1 (fun _ h9 => h9) rfl dX1_letIn_19 ?_
  refine lv_iload_n hx hb dX1_letIn_22 rfl (lv_at hl 1 rfl) ?_
  refine lv_iadd hx hb dX1_letIn_23 ?_
  refine va_put (ci := 1) (v := .int ((y8 x) + p1)) (ty := .int) (C := RX1) (T := TX1) (N := 13) hx hb hts hiX1 tyX1 tyX1_ok nmX1 hown hK.1 hP hD hS 0 rfl rfl 8 (by decide) f1 (fun _ h9 => h9) rfl (by decide +kernel) rfl rfl (Nat.le_of_ble_eq_true rfl) dX1_letIn_24 (fun H locs hP hD hS => ?_)
  have hP : va_P D vwCl (welB I a (y0 x, y1 x, y2 x, y3 x, y4 x, y5 x, y6 x, y7 x, (y8 x) + p1, y9 x, y10 x, yP x, u2)) H := hP
  have hD : va_D (va_A (welB I a x) sz) (welB I a (y0 x, y1 x, y2 x, y3 x, y4 x, y5 x, y6 x, y7 x, (y8 x) + p1, y9 x, y10 x, yP x, u2)) := hD
  exact m_vret (u := (y0 x, y1 x, y2 x, y3 x, y4 x, y5 x, y6 x, y7 x, (y8 x) + p1, y9 x, y10 x, yP x, u2)) hx hb hr hlocks hS hP hD dX1_letIn_27 hw
def qX1_densityToKill (x : Wel) (Q : Int32 → Prop) : Prop := (∀ v1 : Int64, v1 = 981 * (Int32.toInt64 (if (1 : Int32) < (y0 x) then (y0 x) else 1)) → (¬ v1 = 0 ∧ (∀ v3 : Int64, v3 = (((100000 * (Int32.toInt64 (y5 x))) + v1) - 1) / v1 → (((lg_cmp v3 2500) ≤ 0 → Q (Int64.toInt32 (if v3 < 1 then 1 else v3))) ∧ (¬ (lg_cmp v3 2500) ≤ 0 → Q (-4))))))
set_option maxHeartbeats 4000000 in
set_option maxRecDepth 100000 in
theorem kX1_densityToKill (l : Launch) (D : va_G) (I O : ClassId) (a : WA) (sz : Nat) (x : Wel) (Q : Int32 → Prop) (hw : qX1_densityToKill x Q) : Met l yX1_densityToKill wsX1_densityToKill rX1_densityToKill (mPc D I O [.ref a.1] (welB I a x) sz) (va_Qi (fun r (_ : Unit) => Q r) (mB D (va_A (welB I a x) sz) (fun _ => welB I a x)) (va_A (welB I a x) sz)) 0 0 (va_A (welB I a x) sz) := by
  refine m_start (by decide) rfl (Nat.le_of_ble_eq_true rfl) (fun p e s m below meth c ls H locs hx hb hr hml hts hown hlocks hnm hK hP hD hA hS hl => ?_)
  have hown : s.vm.findClass RX1 = some m.cls := hown
  have hl : lv_has ls 5 [(0, .ref a.1)] := hl
  have hiX1 : ∀ w ∈ wsX10, w ∈ wsX1_densityToKill := by decide +kernel
  have f0 := hts (.constantLong RX1 124 (981)) (by decide +kernel)
  have f1 := hts (.fieldLink RX1 9 "WellControl$Well" "depth" "I") (by decide +kernel)
  have f2 := hts (.methodLink RX1 99 Lib.Math.max.name) (by decide +kernel)
  have f3 := hts (.static Lib.Math.max.name) (by decide +kernel)
  have f4 := hts (.initialized "java/lang/Math") (by decide +kernel)
  have f5 := hts (.code Lib.Math.max.name Lib.Math.max.code 2 (some .int)) (by decide +kernel)
  have f6 := hts (.constantLong RX1 126 (100000)) (by decide +kernel)
  have f7 := hts (.fieldLink RX1 27 "WellControl$Well" "formation" "I") (by decide +kernel)
  have f8 := hts (.constantLong RX1 140 (2500)) (by decide +kernel)
  have f9 := hts (.methodLink RX1 142 Lib.MathLoose.max_long.x) (by decide +kernel)
  have f10 := hts (.static Lib.MathLoose.max_long.x) (by decide +kernel)
  have f11 := hts (.code Lib.MathLoose.max_long.x Lib.MathLoose.max_long.code 4 (some .long)) (by decide +kernel)
  unfold qX1_densityToKill at hw
  refine lv_ldc2 (v := 981) hx hb hown f0 dX1_densityToKill_0 ?_
  refine lv_iconst (v := 1) hx hb dX1_densityToKill_3 (by decide) ?_
  refine lv_aload_n hx hb dX1_densityToKill_4 rfl (lv_at hl 0 rfl) ?_
  refine va_get (ci := 1) (v := .int (y0 x)) (C := RX1) (T := TX1) (N := 13) hx hb hts hiX1 hown hK.1 hP 0 rfl rfl 0 (by decide) f1 (fun _ h9 => h9) rfl dX1_densityToKill_5 ?_
  refine va_mmax hx hb (hml.trans hl.1.symm) hown f2 f3 f4 f5 (Nat.le_of_ble_eq_true rfl) (Nat.le_of_ble_eq_true rfl) (Nat.le_of_ble_eq_true rfl) (Nat.le_of_ble_eq_true rfl) dX1_densityToKill_8 ?_
  refine lv_i2l (v := Int32.toInt64 (if (1 : Int32) < (y0 x) then (y0 x) else 1)) hx hb dX1_densityToKill_11 rfl ?_
  refine lv_lmul hx hb dX1_densityToKill_12 ?_
  refine lv_topl (fun v1 ev1 => ?_)
  have hw := hw v1 ev1
  refine lv_lstore_n (lv' := [(1, .long v1), (0, .ref a.1)]) hx hb dX1_densityToKill_13 rfl hl (by decide) rfl (fun ls hl => ?_)
  refine lv_ldc2 (v := 100000) hx hb hown f6 dX1_densityToKill_14 ?_
  refine lv_aload_n hx hb dX1_densityToKill_17 rfl (lv_at hl 1 rfl) ?_
  refine va_get (ci := 1) (v := .int (y5 x)) (C := RX1) (T := TX1) (N := 13) hx hb hts hiX1 hown hK.1 hP 0 rfl rfl 5 (by decide) f7 (fun _ h9 => h9) rfl dX1_densityToKill_18 ?_
  refine lv_i2l (v := Int32.toInt64 (y5 x)) hx hb dX1_densityToKill_21 rfl ?_
  refine lv_lmul hx hb dX1_densityToKill_22 ?_
  refine lv_lload_n hx hb dX1_densityToKill_23 rfl (lv_at hl 0 rfl) ?_
  refine lv_ladd hx hb dX1_densityToKill_24 ?_
  refine lv_lconst (v := 1) hx hb dX1_densityToKill_25 (by decide) ?_
  refine lv_lsub hx hb dX1_densityToKill_26 ?_
  refine lv_lload_n hx hb dX1_densityToKill_27 rfl (lv_at hl 0 rfl) ?_
  obtain ⟨h2, hw⟩ := hw
  refine lv_ldiv hx hb dX1_densityToKill_28 h2 ?_
  refine lv_topl (fun v3 ev3 => ?_)
  have hw := hw v3 ev3
  refine lv_lstore_n (lv' := [(3, .long v3), (1, .long v1), (0, .ref a.1)]) hx hb dX1_densityToKill_29 rfl hl (by decide) rfl (fun ls hl => ?_)
  refine lv_lload_n hx hb dX1_densityToKill_30 rfl (lv_at hl 0 rfl) ?_
  refine lv_ldc2 (v := 2500) hx hb hown f8 dX1_densityToKill_31 ?_
  refine W.lcmp hx hb dX1_densityToKill_34 ?_
  refine lv_if_le (tgt := 43) hx hb dX1_densityToKill_35 (by decide) (fun c4 => ?_) (fun c4 => ?_)
  · have hw := hw.1 c4
    refine lv_lconst (v := 1) hx hb dX1_densityToKill_43 (by decide) ?_
    refine lv_lload_n hx hb dX1_densityToKill_44 rfl (lv_at hl 0 rfl) ?_
    refine va_mmax_long hx hb (hml.trans hl.1.symm) hown f9 f10 f4 f11 (Nat.le_of_ble_eq_true rfl) (Nat.le_of_ble_eq_true rfl) (Nat.le_of_ble_eq_true rfl) (Nat.le_of_ble_eq_true rfl) dX1_densityToKill_45 ?_
    refine lv_l2i (v := Int64.toInt32 (if v3 < 1 then 1 else v3)) hx hb dX1_densityToKill_48 rfl ?_
    exact m_iret (u := ()) hx hb hr hlocks hS hP hD dX1_densityToKill_49 hw
  · have hw := hw.2 c4
    refine lv_bipush (v := (-4)) hx hb dX1_densityToKill_38 (by decide) ?_
    refine lv_goto (tgt := 49) hx hb dX1_densityToKill_40 (by decide) ?_
    exact m_iret (u := ()) hx hb hr hlocks hS hP hD dX1_densityToKill_49 hw
def qX1_mixedSettings (x : Wel) (p1 : Int64) (Q : Int64 → Prop) : Prop := (qX2_mixed p1 (Int32.toInt64 (y0 x)) (fun r1 => (qX2_mixed r1 (Int32.toInt64 (y1 x)) (fun r2 => (qX2_mixed r2 (Int32.toInt64 (y2 x)) (fun r3 => (qX2_mixed r3 (Int32.toInt64 (y3 x)) (fun r4 => (qX2_mixed r4 (Int32.toInt64 (y4 x)) (fun r5 => (qX2_mixed r5 (Int32.toInt64 (y5 x)) (fun r6 => (qX2_mixed r6 (Int32.toInt64 (y6 x)) (fun r7 => (qX2_mixed r7 (Int32.toInt64 (y7 x)) (fun r8 => Q r8))))))))))))))))
set_option maxHeartbeats 4000000 in
set_option maxRecDepth 100000 in
theorem kX1_mixedSettings (l : Launch) (D : va_G) (I O : ClassId) (a : WA) (sz : Nat) (x : Wel) (p1 : Int64) (Q : Int64 → Prop) (hw : qX1_mixedSettings x p1 Q) : Met l yX1_mixedSettings wsX1_mixedSettings rX1_mixedSettings (mPc D I O [.ref a.1, .long p1] (welB I a x) sz) (va_Ql (fun r (_ : Unit) => Q r) (mB D (va_A (welB I a x) sz) (fun _ => welB I a x)) (va_A (welB I a x) sz)) 0 0 (va_A (welB I a x) sz) := by
  refine m_start (by decide) rfl (Nat.le_of_ble_eq_true rfl) (fun p e s m below meth c ls H locs hx hb hr hml hts hown hlocks hnm hK hP hD hA hS hl => ?_)
  have hown : s.vm.findClass RX1 = some m.cls := hown
  have hl : lv_has ls 3 [(0, .ref a.1), (1, .long p1)] := hl
  have hiX1 : ∀ w ∈ wsX10, w ∈ wsX1_mixedSettings := by decide +kernel
  have f0 := hts (.fieldLink RX1 9 "WellControl$Well" "depth" "I") (by decide +kernel)
  have f1 := hts (.initialized RX2) (by decide +kernel)
  have f2 := hts (.static yX2_mixed) (by decide +kernel)
  have f3 := hts (.fieldLink RX1 15 "WellControl$Well" "pipeCapacity" "I") (by decide +kernel)
  have f4 := hts (.fieldLink RX1 18 "WellControl$Well" "annulusCapacity" "I") (by decide +kernel)
  have f5 := hts (.fieldLink RX1 21 "WellControl$Well" "shoe" "I") (by decide +kernel)
  have f6 := hts (.fieldLink RX1 24 "WellControl$Well" "mud" "I") (by decide +kernel)
  have f7 := hts (.fieldLink RX1 27 "WellControl$Well" "formation" "I") (by decide +kernel)
  have f8 := hts (.fieldLink RX1 30 "WellControl$Well" "slowPump" "I") (by decide +kernel)
  have f9 := hts (.fieldLink RX1 33 "WellControl$Well" "fracture" "I") (by decide +kernel)
  unfold qX1_mixedSettings at hw
  refine lv_lload_n hx hb dX1_mixedSettings_0 rfl (lv_at hl 1 rfl) ?_
  refine lv_aload_n hx hb dX1_mixedSettings_1 rfl (lv_at hl 0 rfl) ?_
  refine va_get (ci := 1) (v := .int (y0 x)) (C := RX1) (T := TX1) (N := 13) hx hb hts hiX1 hown hK.1 hP 0 rfl rfl 0 (by decide) f0 (fun _ h9 => h9) rfl dX1_mixedSettings_2 ?_
  refine lv_i2l (v := Int32.toInt64 (y0 x)) hx hb dX1_mixedSettings_5 rfl ?_
  refine m0_l (mv_SN (As := [.long p1, .long (Int32.toInt64 (y0 x))]) (rest := []) ⟨hx, hb, hml, hown, hts⟩ (kX2_mixed l D I O H.size p1 (Int32.toInt64 (y0 x)) _ hw) (va_cnB 2 hts gX1_mixedSettings_X2_mixed_n145 rfl rfl rfl hK.2.2.2.1 f1 hdSX2_mixed ⟨(Nat.le_of_ble_eq_true rfl), (Nat.le_of_ble_eq_true rfl)⟩) f2 hK (nil_P (D := D) (H := H)) (nil_D (A := va_A (welB I a x) sz)) rfl hl.1 rfl (Nat.le_of_ble_eq_true rfl) dX1_mixedSettings_6 ⟨(Nat.le_of_ble_eq_true rfl), (Nat.le_of_ble_eq_true rfl)⟩) hP hD hS hA (fun r1 _ H locs hw hP hD hS => ?_)
  refine lv_lstore_n (lv' := [(1, .long r1), (0, .ref a.1)]) hx hb dX1_mixedSettings_9 rfl hl (by decide) rfl (fun ls hl => ?_)
  refine lv_lload_n hx hb dX1_mixedSettings_10 rfl (lv_at hl 0 rfl) ?_
  refine lv_aload_n hx hb dX1_mixedSettings_11 rfl (lv_at hl 1 rfl) ?_
  refine va_get (ci := 1) (v := .int (y1 x)) (C := RX1) (T := TX1) (N := 13) hx hb hts hiX1 hown hK.1 hP 0 rfl rfl 1 (by decide) f3 (fun _ h9 => h9) rfl dX1_mixedSettings_12 ?_
  refine lv_i2l (v := Int32.toInt64 (y1 x)) hx hb dX1_mixedSettings_15 rfl ?_
  refine m0_l (mv_SN (As := [.long r1, .long (Int32.toInt64 (y1 x))]) (rest := []) ⟨hx, hb, hml, hown, hts⟩ (kX2_mixed l D I O H.size r1 (Int32.toInt64 (y1 x)) _ hw) (va_cnB 2 hts gX1_mixedSettings_X2_mixed_n145 rfl rfl rfl hK.2.2.2.1 f1 hdSX2_mixed ⟨(Nat.le_of_ble_eq_true rfl), (Nat.le_of_ble_eq_true rfl)⟩) f2 hK (nil_P (D := D) (H := H)) (nil_D (A := va_A (welB I a x) sz)) rfl hl.1 rfl (Nat.le_of_ble_eq_true rfl) dX1_mixedSettings_16 ⟨(Nat.le_of_ble_eq_true rfl), (Nat.le_of_ble_eq_true rfl)⟩) hP hD hS hA (fun r2 _ H locs hw hP hD hS => ?_)
  refine lv_lstore_n (lv' := [(1, .long r2), (0, .ref a.1)]) hx hb dX1_mixedSettings_19 rfl hl (by decide) rfl (fun ls hl => ?_)
  refine lv_lload_n hx hb dX1_mixedSettings_20 rfl (lv_at hl 0 rfl) ?_
  refine lv_aload_n hx hb dX1_mixedSettings_21 rfl (lv_at hl 1 rfl) ?_
  refine va_get (ci := 1) (v := .int (y2 x)) (C := RX1) (T := TX1) (N := 13) hx hb hts hiX1 hown hK.1 hP 0 rfl rfl 2 (by decide) f4 (fun _ h9 => h9) rfl dX1_mixedSettings_22 ?_
  refine lv_i2l (v := Int32.toInt64 (y2 x)) hx hb dX1_mixedSettings_25 rfl ?_
  refine m0_l (mv_SN (As := [.long r2, .long (Int32.toInt64 (y2 x))]) (rest := []) ⟨hx, hb, hml, hown, hts⟩ (kX2_mixed l D I O H.size r2 (Int32.toInt64 (y2 x)) _ hw) (va_cnB 2 hts gX1_mixedSettings_X2_mixed_n145 rfl rfl rfl hK.2.2.2.1 f1 hdSX2_mixed ⟨(Nat.le_of_ble_eq_true rfl), (Nat.le_of_ble_eq_true rfl)⟩) f2 hK (nil_P (D := D) (H := H)) (nil_D (A := va_A (welB I a x) sz)) rfl hl.1 rfl (Nat.le_of_ble_eq_true rfl) dX1_mixedSettings_26 ⟨(Nat.le_of_ble_eq_true rfl), (Nat.le_of_ble_eq_true rfl)⟩) hP hD hS hA (fun r3 _ H locs hw hP hD hS => ?_)
  refine lv_lstore_n (lv' := [(1, .long r3), (0, .ref a.1)]) hx hb dX1_mixedSettings_29 rfl hl (by decide) rfl (fun ls hl => ?_)
  refine lv_lload_n hx hb dX1_mixedSettings_30 rfl (lv_at hl 0 rfl) ?_
  refine lv_aload_n hx hb dX1_mixedSettings_31 rfl (lv_at hl 1 rfl) ?_
  refine va_get (ci := 1) (v := .int (y3 x)) (C := RX1) (T := TX1) (N := 13) hx hb hts hiX1 hown hK.1 hP 0 rfl rfl 3 (by decide) f5 (fun _ h9 => h9) rfl dX1_mixedSettings_32 ?_
  refine lv_i2l (v := Int32.toInt64 (y3 x)) hx hb dX1_mixedSettings_35 rfl ?_
  refine m0_l (mv_SN (As := [.long r3, .long (Int32.toInt64 (y3 x))]) (rest := []) ⟨hx, hb, hml, hown, hts⟩ (kX2_mixed l D I O H.size r3 (Int32.toInt64 (y3 x)) _ hw) (va_cnB 2 hts gX1_mixedSettings_X2_mixed_n145 rfl rfl rfl hK.2.2.2.1 f1 hdSX2_mixed ⟨(Nat.le_of_ble_eq_true rfl), (Nat.le_of_ble_eq_true rfl)⟩) f2 hK (nil_P (D := D) (H := H)) (nil_D (A := va_A (welB I a x) sz)) rfl hl.1 rfl (Nat.le_of_ble_eq_true rfl) dX1_mixedSettings_36 ⟨(Nat.le_of_ble_eq_true rfl), (Nat.le_of_ble_eq_true rfl)⟩) hP hD hS hA (fun r4 _ H locs hw hP hD hS => ?_)
  refine lv_lstore_n (lv' := [(1, .long r4), (0, .ref a.1)]) hx hb dX1_mixedSettings_39 rfl hl (by decide) rfl (fun ls hl => ?_)
  refine lv_lload_n hx hb dX1_mixedSettings_40 rfl (lv_at hl 0 rfl) ?_
  refine lv_aload_n hx hb dX1_mixedSettings_41 rfl (lv_at hl 1 rfl) ?_
  refine va_get (ci := 1) (v := .int (y4 x)) (C := RX1) (T := TX1) (N := 13) hx hb hts hiX1 hown hK.1 hP 0 rfl rfl 4 (by decide) f6 (fun _ h9 => h9) rfl dX1_mixedSettings_42 ?_
  refine lv_i2l (v := Int32.toInt64 (y4 x)) hx hb dX1_mixedSettings_45 rfl ?_
  refine m0_l (mv_SN (As := [.long r4, .long (Int32.toInt64 (y4 x))]) (rest := []) ⟨hx, hb, hml, hown, hts⟩ (kX2_mixed l D I O H.size r4 (Int32.toInt64 (y4 x)) _ hw) (va_cnB 2 hts gX1_mixedSettings_X2_mixed_n145 rfl rfl rfl hK.2.2.2.1 f1 hdSX2_mixed ⟨(Nat.le_of_ble_eq_true rfl), (Nat.le_of_ble_eq_true rfl)⟩) f2 hK (nil_P (D := D) (H := H)) (nil_D (A := va_A (welB I a x) sz)) rfl hl.1 rfl (Nat.le_of_ble_eq_true rfl) dX1_mixedSettings_46 ⟨(Nat.le_of_ble_eq_true rfl), (Nat.le_of_ble_eq_true rfl)⟩) hP hD hS hA (fun r5 _ H locs hw hP hD hS => ?_)
  refine lv_lstore_n (lv' := [(1, .long r5), (0, .ref a.1)]) hx hb dX1_mixedSettings_49 rfl hl (by decide) rfl (fun ls hl => ?_)
  refine lv_lload_n hx hb dX1_mixedSettings_50 rfl (lv_at hl 0 rfl) ?_
  refine lv_aload_n hx hb dX1_mixedSettings_51 rfl (lv_at hl 1 rfl) ?_
  refine va_get (ci := 1) (v := .int (y5 x)) (C := RX1) (T := TX1) (N := 13) hx hb hts hiX1 hown hK.1 hP 0 rfl rfl 5 (by decide) f7 (fun _ h9 => h9) rfl dX1_mixedSettings_52 ?_
  refine lv_i2l (v := Int32.toInt64 (y5 x)) hx hb dX1_mixedSettings_55 rfl ?_
  refine m0_l (mv_SN (As := [.long r5, .long (Int32.toInt64 (y5 x))]) (rest := []) ⟨hx, hb, hml, hown, hts⟩ (kX2_mixed l D I O H.size r5 (Int32.toInt64 (y5 x)) _ hw) (va_cnB 2 hts gX1_mixedSettings_X2_mixed_n145 rfl rfl rfl hK.2.2.2.1 f1 hdSX2_mixed ⟨(Nat.le_of_ble_eq_true rfl), (Nat.le_of_ble_eq_true rfl)⟩) f2 hK (nil_P (D := D) (H := H)) (nil_D (A := va_A (welB I a x) sz)) rfl hl.1 rfl (Nat.le_of_ble_eq_true rfl) dX1_mixedSettings_56 ⟨(Nat.le_of_ble_eq_true rfl), (Nat.le_of_ble_eq_true rfl)⟩) hP hD hS hA (fun r6 _ H locs hw hP hD hS => ?_)
  refine lv_lstore_n (lv' := [(1, .long r6), (0, .ref a.1)]) hx hb dX1_mixedSettings_59 rfl hl (by decide) rfl (fun ls hl => ?_)
  refine lv_lload_n hx hb dX1_mixedSettings_60 rfl (lv_at hl 0 rfl) ?_
  refine lv_aload_n hx hb dX1_mixedSettings_61 rfl (lv_at hl 1 rfl) ?_
  refine va_get (ci := 1) (v := .int (y6 x)) (C := RX1) (T := TX1) (N := 13) hx hb hts hiX1 hown hK.1 hP 0 rfl rfl 6 (by decide) f8 (fun _ h9 => h9) rfl dX1_mixedSettings_62 ?_
  refine lv_i2l (v := Int32.toInt64 (y6 x)) hx hb dX1_mixedSettings_65 rfl ?_
  refine m0_l (mv_SN (As := [.long r6, .long (Int32.toInt64 (y6 x))]) (rest := []) ⟨hx, hb, hml, hown, hts⟩ (kX2_mixed l D I O H.size r6 (Int32.toInt64 (y6 x)) _ hw) (va_cnB 2 hts gX1_mixedSettings_X2_mixed_n145 rfl rfl rfl hK.2.2.2.1 f1 hdSX2_mixed ⟨(Nat.le_of_ble_eq_true rfl), (Nat.le_of_ble_eq_true rfl)⟩) f2 hK (nil_P (D := D) (H := H)) (nil_D (A := va_A (welB I a x) sz)) rfl hl.1 rfl (Nat.le_of_ble_eq_true rfl) dX1_mixedSettings_66 ⟨(Nat.le_of_ble_eq_true rfl), (Nat.le_of_ble_eq_true rfl)⟩) hP hD hS hA (fun r7 _ H locs hw hP hD hS => ?_)
  refine lv_lstore_n (lv' := [(1, .long r7), (0, .ref a.1)]) hx hb dX1_mixedSettings_69 rfl hl (by decide) rfl (fun ls hl => ?_)
  refine lv_lload_n hx hb dX1_mixedSettings_70 rfl (lv_at hl 0 rfl) ?_
  refine lv_aload_n hx hb dX1_mixedSettings_71 rfl (lv_at hl 1 rfl) ?_
  refine va_get (ci := 1) (v := .int (y7 x)) (C := RX1) (T := TX1) (N := 13) hx hb hts hiX1 hown hK.1 hP 0 rfl rfl 7 (by decide) f9 (fun _ h9 => h9) rfl dX1_mixedSettings_72 ?_
  refine lv_i2l (v := Int32.toInt64 (y7 x)) hx hb dX1_mixedSettings_75 rfl ?_
  refine m0_l (mv_SN (As := [.long r7, .long (Int32.toInt64 (y7 x))]) (rest := []) ⟨hx, hb, hml, hown, hts⟩ (kX2_mixed l D I O H.size r7 (Int32.toInt64 (y7 x)) _ hw) (va_cnB 2 hts gX1_mixedSettings_X2_mixed_n145 rfl rfl rfl hK.2.2.2.1 f1 hdSX2_mixed ⟨(Nat.le_of_ble_eq_true rfl), (Nat.le_of_ble_eq_true rfl)⟩) f2 hK (nil_P (D := D) (H := H)) (nil_D (A := va_A (welB I a x) sz)) rfl hl.1 rfl (Nat.le_of_ble_eq_true rfl) dX1_mixedSettings_76 ⟨(Nat.le_of_ble_eq_true rfl), (Nat.le_of_ble_eq_true rfl)⟩) hP hD hS hA (fun r8 _ H locs hw hP hD hS => ?_)
  exact m_lret (u := ()) hx hb hr hlocks hS hP hD dX1_mixedSettings_79 hw
def qX1_mixedReadings (x : Wel) (p1 : Int64) (Q : Int64 → Prop) : Prop := (qX1_pressureAtPipe x (fun r1 => (qX2_mixed p1 (Int32.toInt64 r1) (fun r2 => (qX1_pressureAtCasing x (fun r3 => (qX2_mixed r2 (Int32.toInt64 r3) (fun r4 => (qX1_pressureAtStandpipe x (fun r5 => (qX2_mixed r4 (Int32.toInt64 r5) (fun r6 => (qX1_pressureAtShoe x (fun r7 => (qX2_mixed r6 (Int32.toInt64 r7) (fun r8 => (qX2_mixed r8 (Int32.toInt64 (y8 x)) (fun r9 => (qX2_mixed r9 (Int32.toInt64 (y9 x)) (fun r10 => (qX2_mixed r10 (Int32.toInt64 (y10 x)) (fun r11 => Q r11))))))))))))))))))))))
set_option maxHeartbeats 4000000 in
set_option maxRecDepth 100000 in
theorem kX1_mixedReadings (l : Launch) (D : va_G) (I O : ClassId) (a : WA) (sz : Nat) (x : Wel) (p1 : Int64) (Q : Int64 → Prop) (hw : qX1_mixedReadings x p1 Q) : Met l yX1_mixedReadings wsX1_mixedReadings rX1_mixedReadings (mPc D I O [.ref a.1, .long p1] (welB I a x) sz) (va_Ql (fun r (_ : Unit) => Q r) (mB D (va_A (welB I a x) sz) (fun _ => welB I a x)) (va_A (welB I a x) sz)) 0 0 (va_A (welB I a x) sz) := by
  refine m_start (by decide) rfl (Nat.le_of_ble_eq_true rfl) (fun p e s m below meth c ls H locs hx hb hr hml hts hown hlocks hnm hK hP hD hA hS hl => ?_)
  have hown : s.vm.findClass RX1 = some m.cls := hown
  have hl : lv_has ls 3 [(0, .ref a.1), (1, .long p1)] := hl
  have hiX1 : ∀ w ∈ wsX10, w ∈ wsX1_mixedReadings := by decide +kernel
  have f0 := hts (.initialized RX2) (by decide +kernel)
  have f1 := hts (.static yX2_mixed) (by decide +kernel)
  have f2 := hts (.fieldLink RX1 65 "WellControl$Well" "gained" "I") (by decide +kernel)
  have f3 := hts (.fieldLink RX1 68 "WellControl$Well" "timesBroken" "I") (by decide +kernel)
  have f4 := hts (.fieldLink RX1 71 "WellControl$Well" "greatestAtShoe" "I") (by decide +kernel)
  unfold qX1_mixedReadings at hw
  refine lv_lload_n hx hb dX1_mixedReadings_0 rfl (lv_at hl 1 rfl) ?_
  refine lv_aload_n hx hb dX1_mixedReadings_1 rfl (lv_at hl 0 rfl) ?_
  refine mw_i (mv_V (As := []) (rest := [.long p1]) ⟨hx, hb, hml, hown, hts⟩ (kX1_pressureAtPipe l D I O a H.size x _ hw) (cwV 0 hts gX1_mixedReadings_X1_pressureAtPipe rfl rfl rfl hdVX1_pressureAtPipe ⟨(Nat.le_of_ble_eq_true rfl), (Nat.le_of_ble_eq_true rfl)⟩) hK hP hD 0 1 rfl rfl rfl rfl hl.1 rfl (Nat.le_of_ble_eq_true rfl) dX1_mixedReadings_2 ⟨(Nat.le_of_ble_eq_true rfl), (Nat.le_of_ble_eq_true rfl)⟩) hP hD hS hA (fun r1 _ H locs hw hP hD hS => ?_)
  have hP : va_P D vwCl (welB I a x) H := hP
  have hD : va_D (va_A (welB I a x) sz) (welB I a x) := hD
  refine lv_i2l (v := Int32.toInt64 r1) hx hb dX1_mixedReadings_5 rfl ?_
  refine m0_l (mv_SN (As := [.long p1, .long (Int32.toInt64 r1)]) (rest := []) ⟨hx, hb, hml, hown, hts⟩ (kX2_mixed l D I O H.size p1 (Int32.toInt64 r1) _ hw) (va_cnB 2 hts gX1_mixedReadings_X2_mixed_n145 rfl rfl rfl hK.2.2.2.1 f0 hdSX2_mixed ⟨(Nat.le_of_ble_eq_true rfl), (Nat.le_of_ble_eq_true rfl)⟩) f1 hK (nil_P (D := D) (H := H)) (nil_D (A := va_A (welB I a x) sz)) rfl hl.1 rfl (Nat.le_of_ble_eq_true rfl) dX1_mixedReadings_6 ⟨(Nat.le_of_ble_eq_true rfl), (Nat.le_of_ble_eq_true rfl)⟩) hP hD hS hA (fun r2 _ H locs hw hP hD hS => ?_)
  refine lv_lstore_n (lv' := [(1, .long r2), (0, .ref a.1)]) hx hb dX1_mixedReadings_9 rfl hl (by decide) rfl (fun ls hl => ?_)
  refine lv_lload_n hx hb dX1_mixedReadings_10 rfl (lv_at hl 0 rfl) ?_
  refine lv_aload_n hx hb dX1_mixedReadings_11 rfl (lv_at hl 1 rfl) ?_
  refine mw_i (mv_V (As := []) (rest := [.long r2]) ⟨hx, hb, hml, hown, hts⟩ (kX1_pressureAtCasing l D I O a H.size x _ hw) (cwV 0 hts gX1_mixedReadings_X1_pressureAtCasing rfl rfl rfl hdVX1_pressureAtCasing ⟨(Nat.le_of_ble_eq_true rfl), (Nat.le_of_ble_eq_true rfl)⟩) hK hP hD 0 1 rfl rfl rfl rfl hl.1 rfl (Nat.le_of_ble_eq_true rfl) dX1_mixedReadings_12 ⟨(Nat.le_of_ble_eq_true rfl), (Nat.le_of_ble_eq_true rfl)⟩) hP hD hS hA (fun r3 _ H locs hw hP hD hS => ?_)
  have hP : va_P D vwCl (welB I a x) H := hP
  have hD : va_D (va_A (welB I a x) sz) (welB I a x) := hD
  refine lv_i2l (v := Int32.toInt64 r3) hx hb dX1_mixedReadings_15 rfl ?_
  refine m0_l (mv_SN (As := [.long r2, .long (Int32.toInt64 r3)]) (rest := []) ⟨hx, hb, hml, hown, hts⟩ (kX2_mixed l D I O H.size r2 (Int32.toInt64 r3) _ hw) (va_cnB 2 hts gX1_mixedReadings_X2_mixed_n145 rfl rfl rfl hK.2.2.2.1 f0 hdSX2_mixed ⟨(Nat.le_of_ble_eq_true rfl), (Nat.le_of_ble_eq_true rfl)⟩) f1 hK (nil_P (D := D) (H := H)) (nil_D (A := va_A (welB I a x) sz)) rfl hl.1 rfl (Nat.le_of_ble_eq_true rfl) dX1_mixedReadings_16 ⟨(Nat.le_of_ble_eq_true rfl), (Nat.le_of_ble_eq_true rfl)⟩) hP hD hS hA (fun r4 _ H locs hw hP hD hS => ?_)
  refine lv_lstore_n (lv' := [(1, .long r4), (0, .ref a.1)]) hx hb dX1_mixedReadings_19 rfl hl (by decide) rfl (fun ls hl => ?_)
  refine lv_lload_n hx hb dX1_mixedReadings_20 rfl (lv_at hl 0 rfl) ?_
  refine lv_aload_n hx hb dX1_mixedReadings_21 rfl (lv_at hl 1 rfl) ?_
  refine mw_i (mv_V (As := []) (rest := [.long r4]) ⟨hx, hb, hml, hown, hts⟩ (kX1_pressureAtStandpipe l D I O a H.size x _ hw) (cwV 0 hts gX1_mixedReadings_X1_pressureAtStandpipe rfl rfl rfl hdVX1_pressureAtStandpipe ⟨(Nat.le_of_ble_eq_true rfl), (Nat.le_of_ble_eq_true rfl)⟩) hK hP hD 0 1 rfl rfl rfl rfl hl.1 rfl (Nat.le_of_ble_eq_true rfl) dX1_mixedReadings_22 ⟨(Nat.le_of_ble_eq_true rfl), (Nat.le_of_ble_eq_true rfl)⟩) hP hD hS hA (fun r5 _ H locs hw hP hD hS => ?_)
  have hP : va_P D vwCl (welB I a x) H := hP
  have hD : va_D (va_A (welB I a x) sz) (welB I a x) := hD
  refine lv_i2l (v := Int32.toInt64 r5) hx hb dX1_mixedReadings_25 rfl ?_
  refine m0_l (mv_SN (As := [.long r4, .long (Int32.toInt64 r5)]) (rest := []) ⟨hx, hb, hml, hown, hts⟩ (kX2_mixed l D I O H.size r4 (Int32.toInt64 r5) _ hw) (va_cnB 2 hts gX1_mixedReadings_X2_mixed_n145 rfl rfl rfl hK.2.2.2.1 f0 hdSX2_mixed ⟨(Nat.le_of_ble_eq_true rfl), (Nat.le_of_ble_eq_true rfl)⟩) f1 hK (nil_P (D := D) (H := H)) (nil_D (A := va_A (welB I a x) sz)) rfl hl.1 rfl (Nat.le_of_ble_eq_true rfl) dX1_mixedReadings_26 ⟨(Nat.le_of_ble_eq_true rfl), (Nat.le_of_ble_eq_true rfl)⟩) hP hD hS hA (fun r6 _ H locs hw hP hD hS => ?_)
  refine lv_lstore_n (lv' := [(1, .long r6), (0, .ref a.1)]) hx hb dX1_mixedReadings_29 rfl hl (by decide) rfl (fun ls hl => ?_)
  refine lv_lload_n hx hb dX1_mixedReadings_30 rfl (lv_at hl 0 rfl) ?_
  refine lv_aload_n hx hb dX1_mixedReadings_31 rfl (lv_at hl 1 rfl) ?_
  refine mw_i (mv_V (As := []) (rest := [.long r6]) ⟨hx, hb, hml, hown, hts⟩ (kX1_pressureAtShoe l D I O a H.size x _ hw) (cwV 0 hts gX1_mixedReadings_X1_pressureAtShoe rfl rfl rfl hdVX1_pressureAtShoe ⟨(Nat.le_of_ble_eq_true rfl), (Nat.le_of_ble_eq_true rfl)⟩) hK hP hD 0 1 rfl rfl rfl rfl hl.1 rfl (Nat.le_of_ble_eq_true rfl) dX1_mixedReadings_32 ⟨(Nat.le_of_ble_eq_true rfl), (Nat.le_of_ble_eq_true rfl)⟩) hP hD hS hA (fun r7 _ H locs hw hP hD hS => ?_)
  have hP : va_P D vwCl (welB I a x) H := hP
  have hD : va_D (va_A (welB I a x) sz) (welB I a x) := hD
  refine lv_i2l (v := Int32.toInt64 r7) hx hb dX1_mixedReadings_35 rfl ?_
  refine m0_l (mv_SN (As := [.long r6, .long (Int32.toInt64 r7)]) (rest := []) ⟨hx, hb, hml, hown, hts⟩ (kX2_mixed l D I O H.size r6 (Int32.toInt64 r7) _ hw) (va_cnB 2 hts gX1_mixedReadings_X2_mixed_n145 rfl rfl rfl hK.2.2.2.1 f0 hdSX2_mixed ⟨(Nat.le_of_ble_eq_true rfl), (Nat.le_of_ble_eq_true rfl)⟩) f1 hK (nil_P (D := D) (H := H)) (nil_D (A := va_A (welB I a x) sz)) rfl hl.1 rfl (Nat.le_of_ble_eq_true rfl) dX1_mixedReadings_36 ⟨(Nat.le_of_ble_eq_true rfl), (Nat.le_of_ble_eq_true rfl)⟩) hP hD hS hA (fun r8 _ H locs hw hP hD hS => ?_)
  refine lv_lstore_n (lv' := [(1, .long r8), (0, .ref a.1)]) hx hb dX1_mixedReadings_39 rfl hl (by decide) rfl (fun ls hl => ?_)
  refine lv_lload_n hx hb dX1_mixedReadings_40 rfl (lv_at hl 0 rfl) ?_
  refine lv_aload_n hx hb dX1_mixedReadings_41 rfl (lv_at hl 1 rfl) ?_
  refine va_get (ci := 1) (v := .int (y8 x)) (C := RX1) (T := TX1) (N := 13) hx hb hts hiX1 hown hK.1 hP 0 rfl rfl 8 (by decide) f2 (fun _ h9 => h9) rfl dX1_mixedReadings_42 ?_
  refine lv_i2l (v := Int32.toInt64 (y8 x)) hx hb dX1_mixedReadings_45 rfl ?_
  refine m0_l (mv_SN (As := [.long r8, .long (Int32.toInt64 (y8 x))]) (rest := []) ⟨hx, hb, hml, hown, hts⟩ (kX2_mixed l D I O H.size r8 (Int32.toInt64 (y8 x)) _ hw) (va_cnB 2 hts gX1_mixedReadings_X2_mixed_n145 rfl rfl rfl hK.2.2.2.1 f0 hdSX2_mixed ⟨(Nat.le_of_ble_eq_true rfl), (Nat.le_of_ble_eq_true rfl)⟩) f1 hK (nil_P (D := D) (H := H)) (nil_D (A := va_A (welB I a x) sz)) rfl hl.1 rfl (Nat.le_of_ble_eq_true rfl) dX1_mixedReadings_46 ⟨(Nat.le_of_ble_eq_true rfl), (Nat.le_of_ble_eq_true rfl)⟩) hP hD hS hA (fun r9 _ H locs hw hP hD hS => ?_)
  refine lv_lstore_n (lv' := [(1, .long r9), (0, .ref a.1)]) hx hb dX1_mixedReadings_49 rfl hl (by decide) rfl (fun ls hl => ?_)
  refine lv_lload_n hx hb dX1_mixedReadings_50 rfl (lv_at hl 0 rfl) ?_
  refine lv_aload_n hx hb dX1_mixedReadings_51 rfl (lv_at hl 1 rfl) ?_
  refine va_get (ci := 1) (v := .int (y9 x)) (C := RX1) (T := TX1) (N := 13) hx hb hts hiX1 hown hK.1 hP 0 rfl rfl 9 (by decide) f3 (fun _ h9 => h9) rfl dX1_mixedReadings_52 ?_
  refine lv_i2l (v := Int32.toInt64 (y9 x)) hx hb dX1_mixedReadings_55 rfl ?_
  refine m0_l (mv_SN (As := [.long r9, .long (Int32.toInt64 (y9 x))]) (rest := []) ⟨hx, hb, hml, hown, hts⟩ (kX2_mixed l D I O H.size r9 (Int32.toInt64 (y9 x)) _ hw) (va_cnB 2 hts gX1_mixedReadings_X2_mixed_n145 rfl rfl rfl hK.2.2.2.1 f0 hdSX2_mixed ⟨(Nat.le_of_ble_eq_true rfl), (Nat.le_of_ble_eq_true rfl)⟩) f1 hK (nil_P (D := D) (H := H)) (nil_D (A := va_A (welB I a x) sz)) rfl hl.1 rfl (Nat.le_of_ble_eq_true rfl) dX1_mixedReadings_56 ⟨(Nat.le_of_ble_eq_true rfl), (Nat.le_of_ble_eq_true rfl)⟩) hP hD hS hA (fun r10 _ H locs hw hP hD hS => ?_)
  refine lv_lstore_n (lv' := [(1, .long r10), (0, .ref a.1)]) hx hb dX1_mixedReadings_59 rfl hl (by decide) rfl (fun ls hl => ?_)
  refine lv_lload_n hx hb dX1_mixedReadings_60 rfl (lv_at hl 0 rfl) ?_
  refine lv_aload_n hx hb dX1_mixedReadings_61 rfl (lv_at hl 1 rfl) ?_
  refine va_get (ci := 1) (v := .int (y10 x)) (C := RX1) (T := TX1) (N := 13) hx hb hts hiX1 hown hK.1 hP 0 rfl rfl 10 (by decide) f4 (fun _ h9 => h9) rfl dX1_mixedReadings_62 ?_
  refine lv_i2l (v := Int32.toInt64 (y10 x)) hx hb dX1_mixedReadings_65 rfl ?_
  refine m0_l (mv_SN (As := [.long r10, .long (Int32.toInt64 (y10 x))]) (rest := []) ⟨hx, hb, hml, hown, hts⟩ (kX2_mixed l D I O H.size r10 (Int32.toInt64 (y10 x)) _ hw) (va_cnB 2 hts gX1_mixedReadings_X2_mixed_n145 rfl rfl rfl hK.2.2.2.1 f0 hdSX2_mixed ⟨(Nat.le_of_ble_eq_true rfl), (Nat.le_of_ble_eq_true rfl)⟩) f1 hK (nil_P (D := D) (H := H)) (nil_D (A := va_A (welB I a x) sz)) rfl hl.1 rfl (Nat.le_of_ble_eq_true rfl) dX1_mixedReadings_66 ⟨(Nat.le_of_ble_eq_true rfl), (Nat.le_of_ble_eq_true rfl)⟩) hP hD hS hA (fun r11 _ H locs hw hP hD hS => ?_)
  exact m_lret (u := ()) hx hb hr hlocks hS hP hD dX1_mixedReadings_69 hw
def qX1_copyFrom (z : Wel) (x : Wel) (Q : Wel → Prop) : Prop := (qX0_copyFrom (yP z) (yP x) (fun u1 => (qX0_copyFrom (yA z) (yA x) (fun u2 => Q (y0 z, y1 z, y2 z, y3 z, y4 z, y5 z, y6 z, y7 z, y8 z, y9 z, y10 z, u1, u2)))))
set_option maxHeartbeats 4000000 in
set_option maxRecDepth 100000 in
theorem kX1_copyFrom (l : Launch) (D : va_G) (I O : ClassId) (b : WA) (a : WA) (sz : Nat) (z : Wel) (x : Wel) (Q : Wel → Prop) (hw : qX1_copyFrom z x Q) : Met l yX1_copyFrom wsX1_copyFrom rX1_copyFrom (mPc D I O [.ref a.1, .ref b.1] (welB I b z ++ welB I a x) sz) (va_Qv (fun (u : Wel) => Q u) (mB D (va_A (welB I b z ++ welB I a x) sz) (fun u => welB I b z ++ welB I a u)) (va_A (welB I b z ++ welB I a x) sz)) 0 0 (va_A (welB I b z ++ welB I a x) sz) := by
  refine m_start (by decide) rfl (Nat.le_of_ble_eq_true rfl) (fun p e s m below meth c ls H locs hx hb hr hml hts hown hlocks hnm hK hP hD hA hS hl => ?_)
  have hown : s.vm.findClass RX1 = some m.cls := hown
  have hl : lv_has ls 2 [(0, .ref a.1), (1, .ref b.1)] := hl
  have hiX1 : ∀ w ∈ wsX10, w ∈ wsX1_copyFrom := by decide +kernel
  have f0 := hts (.fieldLink RX1 9 "WellControl$Well" "depth" "I") (by decide +kernel)
  have f1 := hts (.fieldLink RX1 15 "WellControl$Well" "pipeCapacity" "I") (by decide +kernel)
  have f2 := hts (.fieldLink RX1 18 "WellControl$Well" "annulusCapacity" "I") (by decide +kernel)
  have f3 := hts (.fieldLink RX1 21 "WellControl$Well" "shoe" "I") (by decide +kernel)
  have f4 := hts (.fieldLink RX1 24 "WellControl$Well" "mud" "I") (by decide +kernel)
  have f5 := hts (.fieldLink RX1 27 "WellControl$Well" "formation" "I") (by decide +kernel)
  have f6 := hts (.fieldLink RX1 30 "WellControl$Well" "slowPump" "I") (by decide +kernel)
  have f7 := hts (.fieldLink RX1 33 "WellControl$Well" "fracture" "I") (by decide +kernel)
  have f8 := hts (.fieldLink RX1 65 "WellControl$Well" "gained" "I") (by decide +kernel)
  have f9 := hts (.fieldLink RX1 68 "WellControl$Well" "timesBroken" "I") (by decide +kernel)
  have f10 := hts (.fieldLink RX1 71 "WellControl$Well" "greatestAtShoe" "I") (by decide +kernel)
  have f11 := hts (.fieldLink RX1 41 "WellControl$Well" "pipe" "LWellControl$Column;") (by decide +kernel)
  have f12 := hts (.fieldLink RX1 45 "WellControl$Well" "annulus" "LWellControl$Column;") (by decide +kernel)
  unfold qX1_copyFrom at hw
  refine lv_aload_n hx hb dX1_copyFrom_0 rfl (lv_at hl 0 rfl) ?_
  refine lv_aload_n hx hb dX1_copyFrom_1 rfl (lv_at hl 1 rfl) ?_
  refine va_get (ci := 1) (v := .int (y0 z)) (C := RX1) (T := TX1) (N := 13) hx hb hts hiX1 hown hK.1 hP 0 rfl rfl 0 (by decide) f0 (fun _ h9 => h9) rfl dX1_copyFrom_2 ?_
  refine va_put (ci := 1) (v := .int (y0 z)) (ty := .int) (C := RX1) (T := TX1) (N := 13) hx hb hts hiX1 tyX1 tyX1_ok nmX1 hown hK.1 hP hD hS 7 rfl rfl 0 (by decide) f0 (fun _ h9 => h9) rfl (by decide +kernel) rfl rfl (Nat.le_of_ble_eq_true rfl) dX1_copyFrom_5 (fun H locs hP hD hS => ?_)
  have hP : va_P D vwCl (welB I b z ++ welB I a (y0 z, y1 x, y2 x, y3 x, y4 x, y5 x, y6 x, y7 x, y8 x, y9 x, y10 x, yP x, yA x)) H := hP
  have hD : va_D (va_A (welB I b z ++ welB I a x) sz) (welB I b z ++ welB I a (y0 z, y1 x, y2 x, y3 x, y4 x, y5 x, y6 x, y7 x, y8 x, y9 x, y10 x, yP x, yA x)) := hD
  refine lv_aload_n hx hb dX1_copyFrom_8 rfl (lv_at hl 0 rfl) ?_
  refine lv_aload_n hx hb dX1_copyFrom_9 rfl (lv_at hl 1 rfl) ?_
  refine va_get (ci := 1) (v := .int (y1 z)) (C := RX1) (T := TX1) (N := 13) hx hb hts hiX1 hown hK.1 hP 0 rfl rfl 1 (by decide) f1 (fun _ h9 => h9) rfl dX1_copyFrom_10 ?_
  refine va_put (ci := 1) (v := .int (y1 z)) (ty := .int) (C := RX1) (T := TX1) (N := 13) hx hb hts hiX1 tyX1 tyX1_ok nmX1 hown hK.1 hP hD hS 7 rfl rfl 1 (by decide) f1 (fun _ h9 => h9) rfl (by decide +kernel) rfl rfl (Nat.le_of_ble_eq_true rfl) dX1_copyFrom_13 (fun H locs hP hD hS => ?_)
  have hP : va_P D vwCl (welB I b z ++ welB I a (y0 z, y1 z, y2 x, y3 x, y4 x, y5 x, y6 x, y7 x, y8 x, y9 x, y10 x, yP x, yA x)) H := hP
  have hD : va_D (va_A (welB I b z ++ welB I a x) sz) (welB I b z ++ welB I a (y0 z, y1 z, y2 x, y3 x, y4 x, y5 x, y6 x, y7 x, y8 x, y9 x, y10 x, yP x, yA x)) := hD
  refine lv_aload_n hx hb dX1_copyFrom_16 rfl (lv_at hl 0 rfl) ?_
  refine lv_aload_n hx hb dX1_copyFrom_17 rfl (lv_at hl 1 rfl) ?_
  refine va_get (ci := 1) (v := .int (y2 z)) (C := RX1) (T := TX1) (N := 13) hx hb hts hiX1 hown hK.1 hP 0 rfl rfl 2 (by decide) f2 (fun _ h9 => h9) rfl dX1_copyFrom_18 ?_
  refine va_put (ci := 1) (v := .int (y2 z)) (ty := .int) (C := RX1) (T := TX1) (N := 13) hx hb hts hiX1 tyX1 tyX1_ok nmX1 hown hK.1 hP hD hS 7 rfl rfl 2 (by decide) f2 (fun _ h9 => h9) rfl (by decide +kernel) rfl rfl (Nat.le_of_ble_eq_true rfl) dX1_copyFrom_21 (fun H locs hP hD hS => ?_)
  have hP : va_P D vwCl (welB I b z ++ welB I a (y0 z, y1 z, y2 z, y3 x, y4 x, y5 x, y6 x, y7 x, y8 x, y9 x, y10 x, yP x, yA x)) H := hP
  have hD : va_D (va_A (welB I b z ++ welB I a x) sz) (welB I b z ++ welB I a (y0 z, y1 z, y2 z, y3 x, y4 x, y5 x, y6 x, y7 x, y8 x, y9 x, y10 x, yP x, yA x)) := hD
  refine lv_aload_n hx hb dX1_copyFrom_24 rfl (lv_at hl 0 rfl) ?_
  refine lv_aload_n hx hb dX1_copyFrom_25 rfl (lv_at hl 1 rfl) ?_
  refine va_get (ci := 1) (v := .int (y3 z)) (C := RX1) (T := TX1) (N := 13) hx hb hts hiX1 hown hK.1 hP 0 rfl rfl 3 (by decide) f3 (fun _ h9 => h9) rfl dX1_copyFrom_26 ?_
  refine va_put (ci := 1) (v := .int (y3 z)) (ty := .int) (C := RX1) (T := TX1) (N := 13) hx hb hts hiX1 tyX1 tyX1_ok nmX1 hown hK.1 hP hD hS 7 rfl rfl 3 (by decide) f3 (fun _ h9 => h9) rfl (by decide +kernel) rfl rfl (Nat.le_of_ble_eq_true rfl) dX1_copyFrom_29 (fun H locs hP hD hS => ?_)
  have hP : va_P D vwCl (welB I b z ++ welB I a (y0 z, y1 z, y2 z, y3 z, y4 x, y5 x, y6 x, y7 x, y8 x, y9 x, y10 x, yP x, yA x)) H := hP
  have hD : va_D (va_A (welB I b z ++ welB I a x) sz) (welB I b z ++ welB I a (y0 z, y1 z, y2 z, y3 z, y4 x, y5 x, y6 x, y7 x, y8 x, y9 x, y10 x, yP x, yA x)) := hD
  refine lv_aload_n hx hb dX1_copyFrom_32 rfl (lv_at hl 0 rfl) ?_
  refine lv_aload_n hx hb dX1_copyFrom_33 rfl (lv_at hl 1 rfl) ?_
  refine va_get (ci := 1) (v := .int (y4 z)) (C := RX1) (T := TX1) (N := 13) hx hb hts hiX1 hown hK.1 hP 0 rfl rfl 4 (by decide) f4 (fun _ h9 => h9) rfl dX1_copyFrom_34 ?_
  refine va_put (ci := 1) (v := .int (y4 z)) (ty := .int) (C := RX1) (T := TX1) (N := 13) hx hb hts hiX1 tyX1 tyX1_ok nmX1 hown hK.1 hP hD hS 7 rfl rfl 4 (by decide) f4 (fun _ h9 => h9) rfl (by decide +kernel) rfl rfl (Nat.le_of_ble_eq_true rfl) dX1_copyFrom_37 (fun H locs hP hD hS => ?_)
  have hP : va_P D vwCl (welB I b z ++ welB I a (y0 z, y1 z, y2 z, y3 z, y4 z, y5 x, y6 x, y7 x, y8 x, y9 x, y10 x, yP x, yA x)) H := hP
  have hD : va_D (va_A (welB I b z ++ welB I a x) sz) (welB I b z ++ welB I a (y0 z, y1 z, y2 z, y3 z, y4 z, y5 x, y6 x, y7 x, y8 x, y9 x, y10 x, yP x, yA x)) := hD
  refine lv_aload_n hx hb dX1_copyFrom_40 rfl (lv_at hl 0 rfl) ?_
  refine lv_aload_n hx hb dX1_copyFrom_41 rfl (lv_at hl 1 rfl) ?_
  refine va_get (ci := 1) (v := .int (y5 z)) (C := RX1) (T := TX1) (N := 13) hx hb hts hiX1 hown hK.1 hP 0 rfl rfl 5 (by decide) f5 (fun _ h9 => h9) rfl dX1_copyFrom_42 ?_
  refine va_put (ci := 1) (v := .int (y5 z)) (ty := .int) (C := RX1) (T := TX1) (N := 13) hx hb hts hiX1 tyX1 tyX1_ok nmX1 hown hK.1 hP hD hS 7 rfl rfl 5 (by decide) f5 (fun _ h9 => h9) rfl (by decide +kernel) rfl rfl (Nat.le_of_ble_eq_true rfl) dX1_copyFrom_45 (fun H locs hP hD hS => ?_)
  have hP : va_P D vwCl (welB I b z ++ welB I a (y0 z, y1 z, y2 z, y3 z, y4 z, y5 z, y6 x, y7 x, y8 x, y9 x, y10 x, yP x, yA x)) H := hP
  have hD : va_D (va_A (welB I b z ++ welB I a x) sz) (welB I b z ++ welB I a (y0 z, y1 z, y2 z, y3 z, y4 z, y5 z, y6 x, y7 x, y8 x, y9 x, y10 x, yP x, yA x)) := hD
  refine lv_aload_n hx hb dX1_copyFrom_48 rfl (lv_at hl 0 rfl) ?_
  refine lv_aload_n hx hb dX1_copyFrom_49 rfl (lv_at hl 1 rfl) ?_
  refine va_get (ci := 1) (v := .int (y6 z)) (C := RX1) (T := TX1) (N := 13) hx hb hts hiX1 hown hK.1 hP 0 rfl rfl 6 (by decide) f6 (fun _ h9 => h9) rfl dX1_copyFrom_50 ?_
  refine va_put (ci := 1) (v := .int (y6 z)) (ty := .int) (C := RX1) (T := TX1) (N := 13) hx hb hts hiX1 tyX1 tyX1_ok nmX1 hown hK.1 hP hD hS 7 rfl rfl 6 (by decide) f6 (fun _ h9 => h9) rfl (by decide +kernel) rfl rfl (Nat.le_of_ble_eq_true rfl) dX1_copyFrom_53 (fun H locs hP hD hS => ?_)
  have hP : va_P D vwCl (welB I b z ++ welB I a (y0 z, y1 z, y2 z, y3 z, y4 z, y5 z, y6 z, y7 x, y8 x, y9 x, y10 x, yP x, yA x)) H := hP
  have hD : va_D (va_A (welB I b z ++ welB I a x) sz) (welB I b z ++ welB I a (y0 z, y1 z, y2 z, y3 z, y4 z, y5 z, y6 z, y7 x, y8 x, y9 x, y10 x, yP x, yA x)) := hD
  refine lv_aload_n hx hb dX1_copyFrom_56 rfl (lv_at hl 0 rfl) ?_
  refine lv_aload_n hx hb dX1_copyFrom_57 rfl (lv_at hl 1 rfl) ?_
  refine va_get (ci := 1) (v := .int (y7 z)) (C := RX1) (T := TX1) (N := 13) hx hb hts hiX1 hown hK.1 hP 0 rfl rfl 7 (by decide) f7 (fun _ h9 => h9) rfl dX1_copyFrom_58 ?_
  refine va_put (ci := 1) (v := .int (y7 z)) (ty := .int) (C := RX1) (T := TX1) (N := 13) hx hb hts hiX1 tyX1 tyX1_ok nmX1 hown hK.1 hP hD hS 7 rfl rfl 7 (by decide) f7 (fun _ h9 => h9) rfl (by decide +kernel) rfl rfl (Nat.le_of_ble_eq_true rfl) dX1_copyFrom_61 (fun H locs hP hD hS => ?_)
  have hP : va_P D vwCl (welB I b z ++ welB I a (y0 z, y1 z, y2 z, y3 z, y4 z, y5 z, y6 z, y7 z, y8 x, y9 x, y10 x, yP x, yA x)) H := hP
  have hD : va_D (va_A (welB I b z ++ welB I a x) sz) (welB I b z ++ welB I a (y0 z, y1 z, y2 z, y3 z, y4 z, y5 z, y6 z, y7 z, y8 x, y9 x, y10 x, yP x, yA x)) := hD
  refine lv_aload_n hx hb dX1_copyFrom_64 rfl (lv_at hl 0 rfl) ?_
  refine lv_aload_n hx hb dX1_copyFrom_65 rfl (lv_at hl 1 rfl) ?_
  refine va_get (ci := 1) (v := .int (y8 z)) (C := RX1) (T := TX1) (N := 13) hx hb hts hiX1 hown hK.1 hP 0 rfl rfl 8 (by decide) f8 (fun _ h9 => h9) rfl dX1_copyFrom_66 ?_
  refine va_put (ci := 1) (v := .int (y8 z)) (ty := .int) (C := RX1) (T := TX1) (N := 13) hx hb hts hiX1 tyX1 tyX1_ok nmX1 hown hK.1 hP hD hS 7 rfl rfl 8 (by decide) f8 (fun _ h9 => h9) rfl (by decide +kernel) rfl rfl (Nat.le_of_ble_eq_true rfl) dX1_copyFrom_69 (fun H locs hP hD hS => ?_)
  have hP : va_P D vwCl (welB I b z ++ welB I a (y0 z, y1 z, y2 z, y3 z, y4 z, y5 z, y6 z, y7 z, y8 z, y9 x, y10 x, yP x, yA x)) H := hP
  have hD : va_D (va_A (welB I b z ++ welB I a x) sz) (welB I b z ++ welB I a (y0 z, y1 z, y2 z, y3 z, y4 z, y5 z, y6 z, y7 z, y8 z, y9 x, y10 x, yP x, yA x)) := hD
  refine lv_aload_n hx hb dX1_copyFrom_72 rfl (lv_at hl 0 rfl) ?_
  refine lv_aload_n hx hb dX1_copyFrom_73 rfl (lv_at hl 1 rfl) ?_
  refine va_get (ci := 1) (v := .int (y9 z)) (C := RX1) (T := TX1) (N := 13) hx hb hts hiX1 hown hK.1 hP 0 rfl rfl 9 (by decide) f9 (fun _ h9 => h9) rfl dX1_copyFrom_74 ?_
  refine va_put (ci := 1) (v := .int (y9 z)) (ty := .int) (C := RX1) (T := TX1) (N := 13) hx hb hts hiX1 tyX1 tyX1_ok nmX1 hown hK.1 hP hD hS 7 rfl rfl 9 (by decide) f9 (fun _ h9 => h9) rfl (by decide +kernel) rfl rfl (Nat.le_of_ble_eq_true rfl) dX1_copyFrom_77 (fun H locs hP hD hS => ?_)
  have hP : va_P D vwCl (welB I b z ++ welB I a (y0 z, y1 z, y2 z, y3 z, y4 z, y5 z, y6 z, y7 z, y8 z, y9 z, y10 x, yP x, yA x)) H := hP
  have hD : va_D (va_A (welB I b z ++ welB I a x) sz) (welB I b z ++ welB I a (y0 z, y1 z, y2 z, y3 z, y4 z, y5 z, y6 z, y7 z, y8 z, y9 z, y10 x, yP x, yA x)) := hD
  refine lv_aload_n hx hb dX1_copyFrom_80 rfl (lv_at hl 0 rfl) ?_
  refine lv_aload_n hx hb dX1_copyFrom_81 rfl (lv_at hl 1 rfl) ?_
  refine va_get (ci := 1) (v := .int (y10 z)) (C := RX1) (T := TX1) (N := 13) hx hb hts hiX1 hown hK.1 hP 0 rfl rfl 10 (by decide) f10 (fun _ h9 => h9) rfl dX1_copyFrom_82 ?_
  refine va_put (ci := 1) (v := .int (y10 z)) (ty := .int) (C := RX1) (T := TX1) (N := 13) hx hb hts hiX1 tyX1 tyX1_ok nmX1 hown hK.1 hP hD hS 7 rfl rfl 10 (by decide) f10 (fun _ h9 => h9) rfl (by decide +kernel) rfl rfl (Nat.le_of_ble_eq_true rfl) dX1_copyFrom_85 (fun H locs hP hD hS => ?_)
  have hP : va_P D vwCl (welB I b z ++ welB I a (y0 z, y1 z, y2 z, y3 z, y4 z, y5 z, y6 z, y7 z, y8 z, y9 z, y10 z, yP x, yA x)) H := hP
  have hD : va_D (va_A (welB I b z ++ welB I a x) sz) (welB I b z ++ welB I a (y0 z, y1 z, y2 z, y3 z, y4 z, y5 z, y6 z, y7 z, y8 z, y9 z, y10 z, yP x, yA x)) := hD
  refine lv_aload_n hx hb dX1_copyFrom_88 rfl (lv_at hl 0 rfl) ?_
  refine va_get (ci := 1) (v := .ref a.2.1.1) (C := RX1) (T := TX1) (N := 13) hx hb hts hiX1 hown hK.1 hP 7 rfl rfl 11 (by decide) f11 (fun _ h9 => h9) rfl dX1_copyFrom_89 ?_
  refine lv_aload_n hx hb dX1_copyFrom_92 rfl (lv_at hl 1 rfl) ?_
  refine va_get (ci := 1) (v := .ref b.2.1.1) (C := RX1) (T := TX1) (N := 13) hx hb hts hiX1 hown hK.1 hP 0 rfl rfl 11 (by decide) f11 (fun _ h9 => h9) rfl dX1_copyFrom_93 ?_
  have hP := hP.sub (ws' := (colB I b.2.1 (yP z) ++ colB I a.2.1 (yP x)) ++ (welO b z :: (colB I b.2.2 (yA z) ++ (welO a (y0 z, y1 z, y2 z, y3 z, y4 z, y5 z, y6 z, y7 z, y8 z, y9 z, y10 z, yP x, yA x) :: colB I a.2.2 (yA x))))) [1, 2, 3, 8, 9, 10, 0, 4, 5, 6, 7, 11, 12, 13] rfl
  have hD := hD.sub (ws' := (colB I b.2.1 (yP z) ++ colB I a.2.1 (yP x)) ++ (welO b z :: (colB I b.2.2 (yA z) ++ (welO a (y0 z, y1 z, y2 z, y3 z, y4 z, y5 z, y6 z, y7 z, y8 z, y9 z, y10 z, yP x, yA x) :: colB I a.2.2 (yA x))))) [1, 2, 3, 8, 9, 10, 0, 4, 5, 6, 7, 11, 12, 13] (by decide) rfl
  have hPc := va_P.mid (X := []) (wc := colB I b.2.1 (yP z) ++ colB I a.2.1 (yP x)) (Y := welO b z :: (colB I b.2.2 (yA z) ++ (welO a (y0 z, y1 z, y2 z, y3 z, y4 z, y5 z, y6 z, y7 z, y8 z, y9 z, y10 z, yP x, yA x) :: colB I a.2.2 (yA x)))) hP
  have hDc := va_D.mid (X := []) (wc := colB I b.2.1 (yP z) ++ colB I a.2.1 (yP x)) (Y := welO b z :: (colB I b.2.2 (yA z) ++ (welO a (y0 z, y1 z, y2 z, y3 z, y4 z, y5 z, y6 z, y7 z, y8 z, y9 z, y10 z, yP x, yA x) :: colB I a.2.2 (yA x)))) hD
  refine mc_v ([]) (welO b z :: (colB I b.2.2 (yA z) ++ (welO a (y0 z, y1 z, y2 z, y3 z, y4 z, y5 z, y6 z, y7 z, y8 z, y9 z, y10 z, yP x, yA x) :: colB I a.2.2 (yA x)))) (mv_V (As := [.ref b.2.1.1]) (rest := []) ⟨hx, hb, hml, hown, hts⟩ (kX0_copyFrom l D I O b.2.1 a.2.1 H.size (yP z) (yP x) _ hw) (cwV 1 hts gX1_copyFrom_X0_copyFrom rfl rfl rfl hdVX0_copyFrom ⟨(Nat.le_of_ble_eq_true rfl), (Nat.le_of_ble_eq_true rfl)⟩) hK hPc hDc 3 0 rfl rfl rfl rfl hl.1 rfl (Nat.le_of_ble_eq_true rfl) dX1_copyFrom_96 ⟨(Nat.le_of_ble_eq_true rfl), (Nat.le_of_ble_eq_true rfl)⟩) hP hD hS hA (fun u1 H locs hw hP hD hS => ?_)
  have hP := hP.sub (ws' := welB I b z ++ welB I a (y0 z, y1 z, y2 z, y3 z, y4 z, y5 z, y6 z, y7 z, y8 z, y9 z, y10 z, u1, yA x)) [6, 0, 1, 2, 7, 8, 9, 10, 3, 4, 5, 11, 12, 13] rfl
  have hD := hD.sub (ws' := welB I b z ++ welB I a (y0 z, y1 z, y2 z, y3 z, y4 z, y5 z, y6 z, y7 z, y8 z, y9 z, y10 z, u1, yA x)) [6, 0, 1, 2, 7, 8, 9, 10, 3, 4, 5, 11, 12, 13] (by decide) rfl
  have hP : va_P D vwCl (welB I b z ++ welB I a (y0 z, y1 z, y2 z, y3 z, y4 z, y5 z, y6 z, y7 z, y8 z, y9 z, y10 z, u1, yA x)) H := hP
  have hD : va_D (va_A (welB I b z ++ welB I a x) sz) (welB I b z ++ welB I a (y0 z, y1 z, y2 z, y3 z, y4 z, y5 z, y6 z, y7 z, y8 z, y9 z, y10 z, u1, yA x)) := hD
  refine lv_aload_n hx hb dX1_copyFrom_99 rfl (lv_at hl 0 rfl) ?_
  refine va_get (ci := 1) (v := .ref a.2.2.1) (C := RX1) (T := TX1) (N := 13) hx hb hts hiX1 hown hK.1 hP 7 rfl rfl 12 (by decide) f12 (fun _ h9 => h9) rfl dX1_copyFrom_100 ?_
  refine lv_aload_n hx hb dX1_copyFrom_103 rfl (lv_at hl 1 rfl) ?_
  refine va_get (ci := 1) (v := .ref b.2.2.1) (C := RX1) (T := TX1) (N := 13) hx hb hts hiX1 hown hK.1 hP 0 rfl rfl 12 (by decide) f12 (fun _ h9 => h9) rfl dX1_copyFrom_104 ?_
  have hP := hP.sub (ws' := (colB I b.2.2 (yA z) ++ colB I a.2.2 (yA x)) ++ (welO b z :: (colB I b.2.1 (yP z) ++ (welO a (y0 z, y1 z, y2 z, y3 z, y4 z, y5 z, y6 z, y7 z, y8 z, y9 z, y10 z, u1, yA x) :: colB I a.2.1 u1)))) [4, 5, 6, 11, 12, 13, 0, 1, 2, 3, 7, 8, 9, 10] rfl
  have hD := hD.sub (ws' := (colB I b.2.2 (yA z) ++ colB I a.2.2 (yA x)) ++ (welO b z :: (colB I b.2.1 (yP z) ++ (welO a (y0 z, y1 z, y2 z, y3 z, y4 z, y5 z, y6 z, y7 z, y8 z, y9 z, y10 z, u1, yA x) :: colB I a.2.1 u1)))) [4, 5, 6, 11, 12, 13, 0, 1, 2, 3, 7, 8, 9, 10] (by decide) rfl
  have hPc := va_P.mid (X := []) (wc := colB I b.2.2 (yA z) ++ colB I a.2.2 (yA x)) (Y := welO b z :: (colB I b.2.1 (yP z) ++ (welO a (y0 z, y1 z, y2 z, y3 z, y4 z, y5 z, y6 z, y7 z, y8 z, y9 z, y10 z, u1, yA x) :: colB I a.2.1 u1))) hP
  have hDc := va_D.mid (X := []) (wc := colB I b.2.2 (yA z) ++ colB I a.2.2 (yA x)) (Y := welO b z :: (colB I b.2.1 (yP z) ++ (welO a (y0 z, y1 z, y2 z, y3 z, y4 z, y5 z, y6 z, y7 z, y8 z, y9 z, y10 z, u1, yA x) :: colB I a.2.1 u1))) hD
  refine mc_v ([]) (welO b z :: (colB I b.2.1 (yP z) ++ (welO a (y0 z, y1 z, y2 z, y3 z, y4 z, y5 z, y6 z, y7 z, y8 z, y9 z, y10 z, u1, yA x) :: colB I a.2.1 u1))) (mv_V (As := [.ref b.2.2.1]) (rest := []) ⟨hx, hb, hml, hown, hts⟩ (kX0_copyFrom l D I O b.2.2 a.2.2 H.size (yA z) (yA x) _ hw) (cwV 1 hts gX1_copyFrom_X0_copyFrom rfl rfl rfl hdVX0_copyFrom ⟨(Nat.le_of_ble_eq_true rfl), (Nat.le_of_ble_eq_true rfl)⟩) hK hPc hDc 3 0 rfl rfl rfl rfl hl.1 rfl (Nat.le_of_ble_eq_true rfl) dX1_copyFrom_107 ⟨(Nat.le_of_ble_eq_true rfl), (Nat.le_of_ble_eq_true rfl)⟩) hP hD hS hA (fun u2 H locs hw hP hD hS => ?_)
  have hP := hP.sub (ws' := welB I b z ++ welB I a (y0 z, y1 z, y2 z, y3 z, y4 z, y5 z, y6 z, y7 z, y8 z, y9 z, y10 z, u1, u2)) [6, 7, 8, 9, 0, 1, 2, 10, 11, 12, 13, 3, 4, 5] rfl
  have hD := hD.sub (ws' := welB I b z ++ welB I a (y0 z, y1 z, y2 z, y3 z, y4 z, y5 z, y6 z, y7 z, y8 z, y9 z, y10 z, u1, u2)) [6, 7, 8, 9, 0, 1, 2, 10, 11, 12, 13, 3, 4, 5] (by decide) rfl
  have hP : va_P D vwCl (welB I b z ++ welB I a (y0 z, y1 z, y2 z, y3 z, y4 z, y5 z, y6 z, y7 z, y8 z, y9 z, y10 z, u1, u2)) H := hP
  have hD : va_D (va_A (welB I b z ++ welB I a x) sz) (welB I b z ++ welB I a (y0 z, y1 z, y2 z, y3 z, y4 z, y5 z, y6 z, y7 z, y8 z, y9 z, y10 z, u1, u2)) := hD
  exact m_vret (u := (y0 z, y1 z, y2 z, y3 z, y4 z, y5 z, y6 z, y7 z, y8 z, y9 z, y10 z, u1, u2)) hx hb hr hlocks hS hP hD dX1_copyFrom_110 hw
end

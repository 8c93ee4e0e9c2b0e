theorem nestWs_in : ∀ w ∈ nestWs, w ∈ lw_tbl := by
  unfold nestWs
  exact List.forall_mem_cons.mpr ⟨List.mem_append_right _ (List.mem_of_getElem? (i := 29) (by decide +kernel)), List.forall_mem_cons.mpr ⟨List.mem_append_right _ (List.mem_of_getElem? (i := 35) (by decide +kernel)), List.forall_mem_cons.mpr ⟨List.mem_append_right _ (List.mem_of_getElem? (i := 40) (by decide +kernel)), List.forall_mem_cons.mpr ⟨List.mem_append_right _ (List.mem_of_getElem? (i := 42) (by decide +kernel)), List.forall_mem_cons.mpr ⟨List.mem_append_right _ (List.mem_of_getElem? (i := 44) (by decide +kernel)), List.forall_mem_cons.mpr ⟨List.mem_append_right _ (List.mem_of_getElem? (i := 46) (by decide +kernel)), List.forall_mem_cons.mpr ⟨List.mem_append_right _ (List.mem_of_getElem? (i := 48) (by decide +kernel)), List.forall_mem_cons.mpr ⟨List.mem_append_right _ (List.mem_of_getElem? (i := 50) (by decide +kernel)), List.forall_mem_cons.mpr ⟨List.mem_append_right _ (List.mem_of_getElem? (i := 51) (by decide +kernel)), List.forall_mem_cons.mpr ⟨List.mem_append_right _ (List.mem_of_getElem? (i := 68) (by decide +kernel)), List.forall_mem_cons.mpr ⟨List.mem_append_right _ (List.mem_of_getElem? (i := 76) (by decide +kernel)), List.forall_mem_cons.mpr ⟨List.mem_append_right _ (List.mem_of_getElem? (i := 89) (by decide +kernel)), List.forall_mem_cons.mpr ⟨List.mem_append_right _ (List.mem_of_getElem? (i := 97) (by decide +kernel)), List.forall_mem_cons.mpr ⟨List.mem_append_right _ (List.mem_of_getElem? (i := 108) (by decide +kernel)), List.forall_mem_cons.mpr ⟨List.mem_append_right _ (List.mem_of_getElem? (i := 109) (by decide +kernel)), List.forall_mem_cons.mpr ⟨List.mem_append_right _ (List.mem_of_getElem? (i := 111) (by decide +kernel)), List.forall_mem_cons.mpr ⟨List.mem_append_right _ (List.mem_of_getElem? (i := 112) (by decide +kernel)), List.forall_mem_cons.mpr ⟨List.mem_append_right _ (List.mem_of_getElem? (i := 114) (by decide +kernel)), List.forall_mem_cons.mpr ⟨List.mem_append_right _ (List.mem_of_getElem? (i := 130) (by decide +kernel)), List.forall_mem_cons.mpr ⟨List.mem_append_right _ (List.mem_of_getElem? (i := 136) (by decide +kernel)), List.forall_mem_cons.mpr ⟨List.mem_append_right _ (List.mem_of_getElem? (i := 137) (by decide +kernel)), List.forall_mem_cons.mpr ⟨List.mem_append_right _ (List.mem_of_getElem? (i := 157) (by decide +kernel)), List.forall_mem_cons.mpr ⟨List.mem_append_right _ (List.mem_of_getElem? (i := 160) (by decide +kernel)), List.forall_mem_cons.mpr ⟨List.mem_append_right _ (List.mem_of_getElem? (i := 173) (by decide +kernel)), List.forall_mem_cons.mpr ⟨List.mem_append_right _ (List.mem_of_getElem? (i := 192) (by decide +kernel)), List.forall_mem_cons.mpr ⟨List.mem_append_right _ (List.mem_of_getElem? (i := 198) (by decide +kernel)), List.forall_mem_cons.mpr ⟨List.mem_append_right _ (List.mem_of_getElem? (i := 204) (by decide +kernel)), List.forall_mem_cons.mpr ⟨List.mem_append_right _ (List.mem_of_getElem? (i := 205) (by decide +kernel)), List.forall_mem_cons.mpr ⟨List.mem_append_right _ (List.mem_of_getElem? (i := 206) (by decide +kernel)), List.forall_mem_cons.mpr ⟨List.mem_append_right _ (List.mem_of_getElem? (i := 208) (by decide +kernel)), List.forall_mem_cons.mpr ⟨List.mem_append_right _ (List.mem_of_getElem? (i := 210) (by decide +kernel)), List.forall_mem_cons.mpr ⟨List.mem_append_right _ (List.mem_of_getElem? (i := 219) (by decide +kernel)), List.forall_mem_cons.mpr ⟨List.mem_append_right _ (List.mem_of_getElem? (i := 246) (by decide +kernel)), List.forall_mem_cons.mpr ⟨List.mem_append_right _ (List.mem_of_getElem? (i := 259) (by decide +kernel)), List.forall_mem_cons.mpr ⟨List.mem_append_right _ (List.mem_of_getElem? (i := 307) (by decide +kernel)), List.forall_mem_cons.mpr ⟨List.mem_append_right _ (List.mem_of_getElem? (i := 361) (by decide +kernel)), List.forall_mem_cons.mpr ⟨List.mem_append_right _ (List.mem_of_getElem? (i := 375) (by decide +kernel)), List.forall_mem_cons.mpr ⟨List.mem_append_right _ (List.mem_of_getElem? (i := 377) (by decide +kernel)), List.forall_mem_cons.mpr ⟨List.mem_append_right _ (List.mem_of_getElem? (i := 409) (by decide +kernel)), List.forall_mem_cons.mpr ⟨List.mem_append_right _ (List.mem_of_getElem? (i := 498) (by decide +kernel)), List.forall_mem_cons.mpr ⟨List.mem_append_right _ (List.mem_of_getElem? (i := 500) (by decide +kernel)), List.forall_mem_cons.mpr ⟨List.mem_append_right _ (List.mem_of_getElem? (i := 537) (by decide +kernel)), List.forall_mem_cons.mpr ⟨List.mem_append_right _ (List.mem_of_getElem? (i := 545) (by decide +kernel)), List.forall_mem_cons.mpr ⟨List.mem_append_right _ (List.mem_of_getElem? (i := 554) (by decide +kernel)), List.forall_mem_cons.mpr ⟨List.mem_append_right _ (List.mem_of_getElem? (i := 654) (by decide +kernel)), List.forall_mem_cons.mpr ⟨List.mem_append_right _ (List.mem_of_getElem? (i := 716) (by decide +kernel)), fun _ h => absurd h List.not_mem_nil⟩⟩⟩⟩⟩⟩⟩⟩⟩⟩⟩⟩⟩⟩⟩⟩⟩⟩⟩⟩⟩⟩⟩⟩⟩⟩⟩⟩⟩⟩⟩⟩⟩⟩⟩⟩⟩⟩⟩⟩⟩⟩⟩⟩⟩⟩
def tmL : List Term := [Term.string "StyleRows$Names" 15, Term.string "StyleRows$Names" 17, Term.string "StyleRows$Names" 19, Term.string "StyleRows$Names" 21, Term.string "StyleRows$Names" 23, Term.string "StyleRows$Names" 25, Term.string "StyleRows$Names" 27, Term.string "StyleRows$Names" 29, Term.string "StyleRows$Names" 31, Term.string "StyleRows$Names" 33, Term.string "StyleRows$Names" 35, Term.string "StyleRows$Names" 37, Term.string "StyleRows$Names" 39, Term.string "StyleRows$Names" 41, Term.string "StyleRows$Reader" 38, Term.string "StyleRows$Reader" 64]
def tmS (i : Nat) : Term := tmL.getD i (Term.int 0)
theorem nr_10 : (Cond.arrayOf (Term.static "StyleRows$Names" "FROM" "[I") FieldType.int) ∈ flatC (Jvm.Cond.and given_1 narrow_1) := List.mem_of_getElem? (i := 10) (by decide +kernel)
theorem nr_11 : (Cond.eq (Term.length (Term.static "StyleRows$Names" "FROM" "[I")) (Term.int 13)) ∈ flatC (Jvm.Cond.and given_1 narrow_1) := List.mem_of_getElem? (i := 11) (by decide +kernel)
theorem nr_12 : (Cond.eq (Term.elem (Term.static "StyleRows$Names" "FROM" "[I") (Term.int 0)) (Term.int 1)) ∈ flatC (Jvm.Cond.and given_1 narrow_1) := List.mem_of_getElem? (i := 12) (by decide +kernel)
theorem nr_13 : (Cond.eq (Term.elem (Term.static "StyleRows$Names" "FROM" "[I") (Term.int 1)) (Term.int 1)) ∈ flatC (Jvm.Cond.and given_1 narrow_1) := List.mem_of_getElem? (i := 13) (by decide +kernel)
theorem nr_14 : (Cond.eq (Term.elem (Term.static "StyleRows$Names" "FROM" "[I") (Term.int 2)) (Term.int 1)) ∈ flatC (Jvm.Cond.and given_1 narrow_1) := List.mem_of_getElem? (i := 14) (by decide +kernel)
theorem nr_15 : (Cond.eq (Term.elem (Term.static "StyleRows$Names" "FROM" "[I") (Term.int 3)) (Term.int 1)) ∈ flatC (Jvm.Cond.and given_1 narrow_1) := List.mem_of_getElem? (i := 15) (by decide +kernel)
theorem nr_16 : (Cond.eq (Term.elem (Term.static "StyleRows$Names" "FROM" "[I") (Term.int 4)) (Term.int 0)) ∈ flatC (Jvm.Cond.and given_1 narrow_1) := List.mem_of_getElem? (i := 16) (by decide +kernel)
theorem nr_17 : (Cond.eq (Term.elem (Term.static "StyleRows$Names" "FROM" "[I") (Term.int 5)) (Term.int 0)) ∈ flatC (Jvm.Cond.and given_1 narrow_1) := List.mem_of_getElem? (i := 17) (by decide +kernel)
theorem nr_18 : (Cond.eq (Term.elem (Term.static "StyleRows$Names" "FROM" "[I") (Term.int 6)) (Term.int 0)) ∈ flatC (Jvm.Cond.and given_1 narrow_1) := List.mem_of_getElem? (i := 18) (by decide +kernel)
theorem nr_19 : (Cond.eq (Term.elem (Term.static "StyleRows$Names" "FROM" "[I") (Term.int 7)) (Term.int 1)) ∈ flatC (Jvm.Cond.and given_1 narrow_1) := List.mem_of_getElem? (i := 19) (by decide +kernel)
theorem nr_20 : (Cond.eq (Term.elem (Term.static "StyleRows$Names" "FROM" "[I") (Term.int 8)) (Term.int 0)) ∈ flatC (Jvm.Cond.and given_1 narrow_1) := List.mem_of_getElem? (i := 20) (by decide +kernel)
theorem nr_21 : (Cond.eq (Term.elem (Term.static "StyleRows$Names" "FROM" "[I") (Term.int 9)) (Term.int 1)) ∈ flatC (Jvm.Cond.and given_1 narrow_1) := List.mem_of_getElem? (i := 21) (by decide +kernel)
theorem nr_22 : (Cond.eq (Term.elem (Term.static "StyleRows$Names" "FROM" "[I") (Term.int 10)) (Term.int 0)) ∈ flatC (Jvm.Cond.and given_1 narrow_1) := List.mem_of_getElem? (i := 22) (by decide +kernel)
theorem nr_23 : (Cond.eq (Term.elem (Term.static "StyleRows$Names" "FROM" "[I") (Term.int 11)) (Term.int 0)) ∈ flatC (Jvm.Cond.and given_1 narrow_1) := List.mem_of_getElem? (i := 23) (by decide +kernel)
theorem nr_24 : (Cond.eq (Term.elem (Term.static "StyleRows$Names" "FROM" "[I") (Term.int 12)) (Term.int 0)) ∈ flatC (Jvm.Cond.and given_1 narrow_1) := List.mem_of_getElem? (i := 24) (by decide +kernel)
theorem nr_26 : (Cond.arrayOf (Term.static "StyleRows$Names" "TO" "[I") FieldType.int) ∈ flatC (Jvm.Cond.and given_1 narrow_1) := List.mem_of_getElem? (i := 26) (by decide +kernel)
theorem nr_27 : (Cond.eq (Term.length (Term.static "StyleRows$Names" "TO" "[I")) (Term.int 13)) ∈ flatC (Jvm.Cond.and given_1 narrow_1) := List.mem_of_getElem? (i := 27) (by decide +kernel)
theorem nr_28 : (Cond.eq (Term.elem (Term.static "StyleRows$Names" "TO" "[I") (Term.int 0)) (Term.int 100)) ∈ flatC (Jvm.Cond.and given_1 narrow_1) := List.mem_of_getElem? (i := 28) (by decide +kernel)
theorem nr_29 : (Cond.eq (Term.elem (Term.static "StyleRows$Names" "TO" "[I") (Term.int 1)) (Term.int 100)) ∈ flatC (Jvm.Cond.and given_1 narrow_1) := List.mem_of_getElem? (i := 29) (by decide +kernel)
theorem nr_30 : (Cond.eq (Term.elem (Term.static "StyleRows$Names" "TO" "[I") (Term.int 2)) (Term.int 100)) ∈ flatC (Jvm.Cond.and given_1 narrow_1) := List.mem_of_getElem? (i := 30) (by decide +kernel)
theorem nr_31 : (Cond.eq (Term.elem (Term.static "StyleRows$Names" "TO" "[I") (Term.int 3)) (Term.int 960)) ∈ flatC (Jvm.Cond.and given_1 narrow_1) := List.mem_of_getElem? (i := 31) (by decide +kernel)
theorem nr_32 : (Cond.eq (Term.elem (Term.static "StyleRows$Names" "TO" "[I") (Term.int 4)) (Term.int 127)) ∈ flatC (Jvm.Cond.and given_1 narrow_1) := List.mem_of_getElem? (i := 32) (by decide +kernel)
theorem nr_33 : (Cond.eq (Term.elem (Term.static "StyleRows$Names" "TO" "[I") (Term.int 5)) (Term.int 127)) ∈ flatC (Jvm.Cond.and given_1 narrow_1) := List.mem_of_getElem? (i := 33) (by decide +kernel)
theorem nr_34 : (Cond.eq (Term.elem (Term.static "StyleRows$Names" "TO" "[I") (Term.int 6)) (Term.int 127)) ∈ flatC (Jvm.Cond.and given_1 narrow_1) := List.mem_of_getElem? (i := 34) (by decide +kernel)
theorem nr_35 : (Cond.eq (Term.elem (Term.static "StyleRows$Names" "TO" "[I") (Term.int 7)) (Term.int 960)) ∈ flatC (Jvm.Cond.and given_1 narrow_1) := List.mem_of_getElem? (i := 35) (by decide +kernel)
theorem nr_36 : (Cond.eq (Term.elem (Term.static "StyleRows$Names" "TO" "[I") (Term.int 8)) (Term.int 1)) ∈ flatC (Jvm.Cond.and given_1 narrow_1) := List.mem_of_getElem? (i := 36) (by decide +kernel)
theorem nr_37 : (Cond.eq (Term.elem (Term.static "StyleRows$Names" "TO" "[I") (Term.int 9)) (Term.int 960)) ∈ flatC (Jvm.Cond.and given_1 narrow_1) := List.mem_of_getElem? (i := 37) (by decide +kernel)
theorem nr_38 : (Cond.eq (Term.elem (Term.static "StyleRows$Names" "TO" "[I") (Term.int 10)) (Term.int 960)) ∈ flatC (Jvm.Cond.and given_1 narrow_1) := List.mem_of_getElem? (i := 38) (by decide +kernel)
theorem nr_39 : (Cond.eq (Term.elem (Term.static "StyleRows$Names" "TO" "[I") (Term.int 11)) (Term.int 960)) ∈ flatC (Jvm.Cond.and given_1 narrow_1) := List.mem_of_getElem? (i := 39) (by decide +kernel)
theorem nr_40 : (Cond.eq (Term.elem (Term.static "StyleRows$Names" "TO" "[I") (Term.int 12)) (Term.int 99)) ∈ flatC (Jvm.Cond.and given_1 narrow_1) := List.mem_of_getElem? (i := 40) (by decide +kernel)
theorem nr_42 : (Cond.arrayOf (Term.static "StyleRows$Names" "WITHOUT" "[I") FieldType.int) ∈ flatC (Jvm.Cond.and given_1 narrow_1) := List.mem_of_getElem? (i := 42) (by decide +kernel)
theorem nr_43 : (Cond.eq (Term.length (Term.static "StyleRows$Names" "WITHOUT" "[I")) (Term.int 13)) ∈ flatC (Jvm.Cond.and given_1 narrow_1) := List.mem_of_getElem? (i := 43) (by decide +kernel)
theorem nr_44 : (Cond.eq (Term.elem (Term.static "StyleRows$Names" "WITHOUT" "[I") (Term.int 0)) (Term.int 50)) ∈ flatC (Jvm.Cond.and given_1 narrow_1) := List.mem_of_getElem? (i := 44) (by decide +kernel)
theorem nr_45 : (Cond.eq (Term.elem (Term.static "StyleRows$Names" "WITHOUT" "[I") (Term.int 1)) (Term.int 90)) ∈ flatC (Jvm.Cond.and given_1 narrow_1) := List.mem_of_getElem? (i := 45) (by decide +kernel)
theorem nr_46 : (Cond.eq (Term.elem (Term.static "StyleRows$Names" "WITHOUT" "[I") (Term.int 2)) (Term.int 100)) ∈ flatC (Jvm.Cond.and given_1 narrow_1) := List.mem_of_getElem? (i := 46) (by decide +kernel)
theorem nr_47 : (Cond.eq (Term.elem (Term.static "StyleRows$Names" "WITHOUT" "[I") (Term.int 3)) (Term.int 10)) ∈ flatC (Jvm.Cond.and given_1 narrow_1) := List.mem_of_getElem? (i := 47) (by decide +kernel)
theorem nr_48 : (Cond.eq (Term.elem (Term.static "StyleRows$Names" "WITHOUT" "[I") (Term.int 4)) (Term.int 16)) ∈ flatC (Jvm.Cond.and given_1 narrow_1) := List.mem_of_getElem? (i := 48) (by decide +kernel)
theorem nr_49 : (Cond.eq (Term.elem (Term.static "StyleRows$Names" "WITHOUT" "[I") (Term.int 5)) (Term.int 8)) ∈ flatC (Jvm.Cond.and given_1 narrow_1) := List.mem_of_getElem? (i := 49) (by decide +kernel)
theorem nr_50 : (Cond.eq (Term.elem (Term.static "StyleRows$Names" "WITHOUT" "[I") (Term.int 6)) (Term.int 4)) ∈ flatC (Jvm.Cond.and given_1 narrow_1) := List.mem_of_getElem? (i := 50) (by decide +kernel)
theorem nr_51 : (Cond.eq (Term.elem (Term.static "StyleRows$Names" "WITHOUT" "[I") (Term.int 7)) (Term.int 30)) ∈ flatC (Jvm.Cond.and given_1 narrow_1) := List.mem_of_getElem? (i := 51) (by decide +kernel)
theorem nr_52 : (Cond.eq (Term.elem (Term.static "StyleRows$Names" "WITHOUT" "[I") (Term.int 8)) (Term.int 0)) ∈ flatC (Jvm.Cond.and given_1 narrow_1) := List.mem_of_getElem? (i := 52) (by decide +kernel)
theorem nr_53 : (Cond.eq (Term.elem (Term.static "StyleRows$Names" "WITHOUT" "[I") (Term.int 9)) (Term.int 20)) ∈ flatC (Jvm.Cond.and given_1 narrow_1) := List.mem_of_getElem? (i := 53) (by decide +kernel)
theorem nr_54 : (Cond.eq (Term.elem (Term.static "StyleRows$Names" "WITHOUT" "[I") (Term.int 10)) (Term.int 40)) ∈ flatC (Jvm.Cond.and given_1 narrow_1) := List.mem_of_getElem? (i := 54) (by decide +kernel)
theorem nr_55 : (Cond.eq (Term.elem (Term.static "StyleRows$Names" "WITHOUT" "[I") (Term.int 11)) (Term.int 12)) ∈ flatC (Jvm.Cond.and given_1 narrow_1) := List.mem_of_getElem? (i := 55) (by decide +kernel)
theorem nr_56 : (Cond.eq (Term.elem (Term.static "StyleRows$Names" "WITHOUT" "[I") (Term.int 12)) (Term.int 0)) ∈ flatC (Jvm.Cond.and given_1 narrow_1) := List.mem_of_getElem? (i := 56) (by decide +kernel)
theorem nr_57 : (Cond.exactly (Term.string "StyleRows$Reader" 38) "java/lang/String") ∈ flatC (Jvm.Cond.and given_1 narrow_1) := List.mem_of_getElem? (i := 57) (by decide +kernel)
theorem nr_58 : (Cond.eq (Term.field (Term.string "StyleRows$Reader" 38) "java/lang/String" "coder" "B") (Term.int 0)) ∈ flatC (Jvm.Cond.and given_1 narrow_1) := List.mem_of_getElem? (i := 58) (by decide +kernel)
theorem nr_59 : (Cond.arrayOf (Term.field (Term.string "StyleRows$Reader" 38) "java/lang/String" "value" "[B") FieldType.byte) ∈ flatC (Jvm.Cond.and given_1 narrow_1) := List.mem_of_getElem? (i := 59) (by decide +kernel)
theorem nr_60 : (Cond.eq (Term.length (Term.field (Term.string "StyleRows$Reader" 38) "java/lang/String" "value" "[B")) (Term.int 5)) ∈ flatC (Jvm.Cond.and given_1 narrow_1) := List.mem_of_getElem? (i := 60) (by decide +kernel)
theorem nr_61 : (Cond.eq (Term.elem (Term.field (Term.string "StyleRows$Reader" 38) "java/lang/String" "value" "[B") (Term.int 0)) (Term.int 118)) ∈ flatC (Jvm.Cond.and given_1 narrow_1) := List.mem_of_getElem? (i := 61) (by decide +kernel)
theorem nr_62 : (Cond.eq (Term.elem (Term.field (Term.string "StyleRows$Reader" 38) "java/lang/String" "value" "[B") (Term.int 1)) (Term.int 111)) ∈ flatC (Jvm.Cond.and given_1 narrow_1) := List.mem_of_getElem? (i := 62) (by decide +kernel)
theorem nr_63 : (Cond.eq (Term.elem (Term.field (Term.string "StyleRows$Reader" 38) "java/lang/String" "value" "[B") (Term.int 2)) (Term.int 105)) ∈ flatC (Jvm.Cond.and given_1 narrow_1) := List.mem_of_getElem? (i := 63) (by decide +kernel)
theorem nr_64 : (Cond.eq (Term.elem (Term.field (Term.string "StyleRows$Reader" 38) "java/lang/String" "value" "[B") (Term.int 3)) (Term.int 99)) ∈ flatC (Jvm.Cond.and given_1 narrow_1) := List.mem_of_getElem? (i := 64) (by decide +kernel)
theorem nr_65 : (Cond.eq (Term.elem (Term.field (Term.string "StyleRows$Reader" 38) "java/lang/String" "value" "[B") (Term.int 4)) (Term.int 101)) ∈ flatC (Jvm.Cond.and given_1 narrow_1) := List.mem_of_getElem? (i := 65) (by decide +kernel)
theorem nr_66 : (Cond.exactly (Term.string "StyleRows$Names" 15) "java/lang/String") ∈ flatC (Jvm.Cond.and given_1 narrow_1) := List.mem_of_getElem? (i := 66) (by decide +kernel)
theorem nr_67 : (Cond.eq (Term.field (Term.string "StyleRows$Names" 15) "java/lang/String" "coder" "B") (Term.int 0)) ∈ flatC (Jvm.Cond.and given_1 narrow_1) := List.mem_of_getElem? (i := 67) (by decide +kernel)
theorem nr_68 : (Cond.arrayOf (Term.field (Term.string "StyleRows$Names" 15) "java/lang/String" "value" "[B") FieldType.byte) ∈ flatC (Jvm.Cond.and given_1 narrow_1) := List.mem_of_getElem? (i := 68) (by decide +kernel)
theorem nr_69 : (Cond.eq (Term.length (Term.field (Term.string "StyleRows$Names" 15) "java/lang/String" "value" "[B")) (Term.int 5)) ∈ flatC (Jvm.Cond.and given_1 narrow_1) := List.mem_of_getElem? (i := 69) (by decide +kernel)
theorem nr_70 : (Cond.eq (Term.elem (Term.field (Term.string "StyleRows$Names" 15) "java/lang/String" "value" "[B") (Term.int 0)) (Term.int 115)) ∈ flatC (Jvm.Cond.and given_1 narrow_1) := List.mem_of_getElem? (i := 70) (by decide +kernel)
theorem nr_71 : (Cond.eq (Term.elem (Term.field (Term.string "StyleRows$Names" 15) "java/lang/String" "value" "[B") (Term.int 1)) (Term.int 104)) ∈ flatC (Jvm.Cond.and given_1 narrow_1) := List.mem_of_getElem? (i := 71) (by decide +kernel)
theorem nr_72 : (Cond.eq (Term.elem (Term.field (Term.string "StyleRows$Names" 15) "java/lang/String" "value" "[B") (Term.int 2)) (Term.int 111)) ∈ flatC (Jvm.Cond.and given_1 narrow_1) := List.mem_of_getElem? (i := 72) (by decide +kernel)
theorem nr_73 : (Cond.eq (Term.elem (Term.field (Term.string "StyleRows$Names" 15) "java/lang/String" "value" "[B") (Term.int 3)) (Term.int 114)) ∈ flatC (Jvm.Cond.and given_1 narrow_1) := List.mem_of_getElem? (i := 73) (by decide +kernel)
theorem nr_74 : (Cond.eq (Term.elem (Term.field (Term.string "StyleRows$Names" 15) "java/lang/String" "value" "[B") (Term.int 4)) (Term.int 116)) ∈ flatC (Jvm.Cond.and given_1 narrow_1) := List.mem_of_getElem? (i := 74) (by decide +kernel)
theorem nr_75 : (Cond.not (Cond.eq (Term.string "StyleRows$Reader" 38) (Term.string "StyleRows$Names" 15))) ∈ flatC (Jvm.Cond.and given_1 narrow_1) := List.mem_of_getElem? (i := 75) (by decide +kernel)
theorem nr_76 : (Cond.exactly (Term.string "StyleRows$Names" 17) "java/lang/String") ∈ flatC (Jvm.Cond.and given_1 narrow_1) := List.mem_of_getElem? (i := 76) (by decide +kernel)
theorem nr_77 : (Cond.eq (Term.field (Term.string "StyleRows$Names" 17) "java/lang/String" "coder" "B") (Term.int 0)) ∈ flatC (Jvm.Cond.and given_1 narrow_1) := List.mem_of_getElem? (i := 77) (by decide +kernel)
theorem nr_78 : (Cond.arrayOf (Term.field (Term.string "StyleRows$Names" 17) "java/lang/String" "value" "[B") FieldType.byte) ∈ flatC (Jvm.Cond.and given_1 narrow_1) := List.mem_of_getElem? (i := 78) (by decide +kernel)
theorem nr_79 : (Cond.eq (Term.length (Term.field (Term.string "StyleRows$Names" 17) "java/lang/String" "value" "[B")) (Term.int 5)) ∈ flatC (Jvm.Cond.and given_1 narrow_1) := List.mem_of_getElem? (i := 79) (by decide +kernel)
theorem nr_80 : (Cond.eq (Term.elem (Term.field (Term.string "StyleRows$Names" 17) "java/lang/String" "value" "[B") (Term.int 0)) (Term.int 112)) ∈ flatC (Jvm.Cond.and given_1 narrow_1) := List.mem_of_getElem? (i := 80) (by decide +kernel)
theorem nr_81 : (Cond.eq (Term.elem (Term.field (Term.string "StyleRows$Names" 17) "java/lang/String" "value" "[B") (Term.int 1)) (Term.int 108)) ∈ flatC (Jvm.Cond.and given_1 narrow_1) := List.mem_of_getElem? (i := 81) (by decide +kernel)
theorem nr_82 : (Cond.eq (Term.elem (Term.field (Term.string "StyleRows$Names" 17) "java/lang/String" "value" "[B") (Term.int 2)) (Term.int 97)) ∈ flatC (Jvm.Cond.and given_1 narrow_1) := List.mem_of_getElem? (i := 82) (by decide +kernel)
theorem nr_83 : (Cond.eq (Term.elem (Term.field (Term.string "StyleRows$Names" 17) "java/lang/String" "value" "[B") (Term.int 3)) (Term.int 105)) ∈ flatC (Jvm.Cond.and given_1 narrow_1) := List.mem_of_getElem? (i := 83) (by decide +kernel)
theorem nr_84 : (Cond.eq (Term.elem (Term.field (Term.string "StyleRows$Names" 17) "java/lang/String" "value" "[B") (Term.int 4)) (Term.int 110)) ∈ flatC (Jvm.Cond.and given_1 narrow_1) := List.mem_of_getElem? (i := 84) (by decide +kernel)
theorem nr_85 : (Cond.not (Cond.eq (Term.string "StyleRows$Reader" 38) (Term.string "StyleRows$Names" 17))) ∈ flatC (Jvm.Cond.and given_1 narrow_1) := List.mem_of_getElem? (i := 85) (by decide +kernel)
theorem nr_86 : (Cond.not (Cond.eq (Term.string "StyleRows$Names" 15) (Term.string "StyleRows$Names" 17))) ∈ flatC (Jvm.Cond.and given_1 narrow_1) := List.mem_of_getElem? (i := 86) (by decide +kernel)
theorem nr_87 : (Cond.exactly (Term.string "StyleRows$Names" 19) "java/lang/String") ∈ flatC (Jvm.Cond.and given_1 narrow_1) := List.mem_of_getElem? (i := 87) (by decide +kernel)
theorem nr_88 : (Cond.eq (Term.field (Term.string "StyleRows$Names" 19) "java/lang/String" "coder" "B") (Term.int 0)) ∈ flatC (Jvm.Cond.and given_1 narrow_1) := List.mem_of_getElem? (i := 88) (by decide +kernel)
theorem nr_89 : (Cond.arrayOf (Term.field (Term.string "StyleRows$Names" 19) "java/lang/String" "value" "[B") FieldType.byte) ∈ flatC (Jvm.Cond.and given_1 narrow_1) := List.mem_of_getElem? (i := 89) (by decide +kernel)
theorem nr_90 : (Cond.eq (Term.length (Term.field (Term.string "StyleRows$Names" 19) "java/lang/String" "value" "[B")) (Term.int 4)) ∈ flatC (Jvm.Cond.and given_1 narrow_1) := List.mem_of_getElem? (i := 90) (by decide +kernel)
theorem nr_91 : (Cond.eq (Term.elem (Term.field (Term.string "StyleRows$Names" 19) "java/lang/String" "value" "[B") (Term.int 0)) (Term.int 104)) ∈ flatC (Jvm.Cond.and given_1 narrow_1) := List.mem_of_getElem? (i := 91) (by decide +kernel)
theorem nr_92 : (Cond.eq (Term.elem (Term.field (Term.string "StyleRows$Names" 19) "java/lang/String" "value" "[B") (Term.int 1)) (Term.int 101)) ∈ flatC (Jvm.Cond.and given_1 narrow_1) := List.mem_of_getElem? (i := 92) (by decide +kernel)
theorem nr_93 : (Cond.eq (Term.elem (Term.field (Term.string "StyleRows$Names" 19) "java/lang/String" "value" "[B") (Term.int 2)) (Term.int 108)) ∈ flatC (Jvm.Cond.and given_1 narrow_1) := List.mem_of_getElem? (i := 93) (by decide +kernel)
theorem nr_94 : (Cond.eq (Term.elem (Term.field (Term.string "StyleRows$Names" 19) "java/lang/String" "value" "[B") (Term.int 3)) (Term.int 100)) ∈ flatC (Jvm.Cond.and given_1 narrow_1) := List.mem_of_getElem? (i := 94) (by decide +kernel)
theorem nr_95 : (Cond.not (Cond.eq (Term.string "StyleRows$Reader" 38) (Term.string "StyleRows$Names" 19))) ∈ flatC (Jvm.Cond.and given_1 narrow_1) := List.mem_of_getElem? (i := 95) (by decide +kernel)
theorem nr_96 : (Cond.not (Cond.eq (Term.string "StyleRows$Names" 15) (Term.string "StyleRows$Names" 19))) ∈ flatC (Jvm.Cond.and given_1 narrow_1) := List.mem_of_getElem? (i := 96) (by decide +kernel)
theorem nr_97 : (Cond.not (Cond.eq (Term.string "StyleRows$Names" 17) (Term.string "StyleRows$Names" 19))) ∈ flatC (Jvm.Cond.and given_1 narrow_1) := List.mem_of_getElem? (i := 97) (by decide +kernel)
theorem nr_98 : (Cond.exactly (Term.string "StyleRows$Names" 21) "java/lang/String") ∈ flatC (Jvm.Cond.and given_1 narrow_1) := List.mem_of_getElem? (i := 98) (by decide +kernel)
theorem nr_99 : (Cond.eq (Term.field (Term.string "StyleRows$Names" 21) "java/lang/String" "coder" "B") (Term.int 0)) ∈ flatC (Jvm.Cond.and given_1 narrow_1) := List.mem_of_getElem? (i := 99) (by decide +kernel)
theorem nr_100 : (Cond.arrayOf (Term.field (Term.string "StyleRows$Names" 21) "java/lang/String" "value" "[B") FieldType.byte) ∈ flatC (Jvm.Cond.and given_1 narrow_1) := List.mem_of_getElem? (i := 100) (by decide +kernel)
theorem nr_101 : (Cond.eq (Term.length (Term.field (Term.string "StyleRows$Names" 21) "java/lang/String" "value" "[B")) (Term.int 5)) ∈ flatC (Jvm.Cond.and given_1 narrow_1) := List.mem_of_getElem? (i := 101) (by decide +kernel)
theorem nr_102 : (Cond.eq (Term.elem (Term.field (Term.string "StyleRows$Names" 21) "java/lang/String" "value" "[B") (Term.int 0)) (Term.int 108)) ∈ flatC (Jvm.Cond.and given_1 narrow_1) := List.mem_of_getElem? (i := 102) (by decide +kernel)
theorem nr_103 : (Cond.eq (Term.elem (Term.field (Term.string "StyleRows$Names" 21) "java/lang/String" "value" "[B") (Term.int 1)) (Term.int 101)) ∈ flatC (Jvm.Cond.and given_1 narrow_1) := List.mem_of_getElem? (i := 103) (by decide +kernel)
theorem nr_104 : (Cond.eq (Term.elem (Term.field (Term.string "StyleRows$Names" 21) "java/lang/String" "value" "[B") (Term.int 2)) (Term.int 97)) ∈ flatC (Jvm.Cond.and given_1 narrow_1) := List.mem_of_getElem? (i := 104) (by decide +kernel)
theorem nr_105 : (Cond.eq (Term.elem (Term.field (Term.string "StyleRows$Names" 21) "java/lang/String" "value" "[B") (Term.int 3)) (Term.int 115)) ∈ flatC (Jvm.Cond.and given_1 narrow_1) := List.mem_of_getElem? (i := 105) (by decide +kernel)
theorem nr_106 : (Cond.eq (Term.elem (Term.field (Term.string "StyleRows$Names" 21) "java/lang/String" "value" "[B") (Term.int 4)) (Term.int 116)) ∈ flatC (Jvm.Cond.and given_1 narrow_1) := List.mem_of_getElem? (i := 106) (by decide +kernel)
theorem nr_107 : (Cond.not (Cond.eq (Term.string "StyleRows$Reader" 38) (Term.string "StyleRows$Names" 21))) ∈ flatC (Jvm.Cond.and given_1 narrow_1) := List.mem_of_getElem? (i := 107) (by decide +kernel)
theorem nr_108 : (Cond.not (Cond.eq (Term.string "StyleRows$Names" 15) (Term.string "StyleRows$Names" 21))) ∈ flatC (Jvm.Cond.and given_1 narrow_1) := List.mem_of_getElem? (i := 108) (by decide +kernel)
theorem nr_109 : (Cond.not (Cond.eq (Term.string "StyleRows$Names" 17) (Term.string "StyleRows$Names" 21))) ∈ flatC (Jvm.Cond.and given_1 narrow_1) := List.mem_of_getElem? (i := 109) (by decide +kernel)
theorem nr_110 : (Cond.not (Cond.eq (Term.string "StyleRows$Names" 19) (Term.string "StyleRows$Names" 21))) ∈ flatC (Jvm.Cond.and given_1 narrow_1) := List.mem_of_getElem? (i := 110) (by decide +kernel)
theorem nr_111 : (Cond.exactly (Term.string "StyleRows$Names" 23) "java/lang/String") ∈ flatC (Jvm.Cond.and given_1 narrow_1) := List.mem_of_getElem? (i := 111) (by decide +kernel)
theorem nr_112 : (Cond.eq (Term.field (Term.string "StyleRows$Names" 23) "java/lang/String" "coder" "B") (Term.int 0)) ∈ flatC (Jvm.Cond.and given_1 narrow_1) := List.mem_of_getElem? (i := 112) (by decide +kernel)
theorem nr_113 : (Cond.arrayOf (Term.field (Term.string "StyleRows$Names" 23) "java/lang/String" "value" "[B") FieldType.byte) ∈ flatC (Jvm.Cond.and given_1 narrow_1) := List.mem_of_getElem? (i := 113) (by decide +kernel)
theorem nr_114 : (Cond.eq (Term.length (Term.field (Term.string "StyleRows$Names" 23) "java/lang/String" "value" "[B")) (Term.int 6)) ∈ flatC (Jvm.Cond.and given_1 narrow_1) := List.mem_of_getElem? (i := 114) (by decide +kernel)
theorem nr_115 : (Cond.eq (Term.elem (Term.field (Term.string "StyleRows$Names" 23) "java/lang/String" "value" "[B") (Term.int 0)) (Term.int 97)) ∈ flatC (Jvm.Cond.and given_1 narrow_1) := List.mem_of_getElem? (i := 115) (by decide +kernel)
theorem nr_116 : (Cond.eq (Term.elem (Term.field (Term.string "StyleRows$Names" 23) "java/lang/String" "value" "[B") (Term.int 1)) (Term.int 99)) ∈ flatC (Jvm.Cond.and given_1 narrow_1) := List.mem_of_getElem? (i := 116) (by decide +kernel)
theorem nr_117 : (Cond.eq (Term.elem (Term.field (Term.string "StyleRows$Names" 23) "java/lang/String" "value" "[B") (Term.int 2)) (Term.int 99)) ∈ flatC (Jvm.Cond.and given_1 narrow_1) := List.mem_of_getElem? (i := 117) (by decide +kernel)
theorem nr_118 : (Cond.eq (Term.elem (Term.field (Term.string "StyleRows$Names" 23) "java/lang/String" "value" "[B") (Term.int 3)) (Term.int 101)) ∈ flatC (Jvm.Cond.and given_1 narrow_1) := List.mem_of_getElem? (i := 118) (by decide +kernel)
theorem nr_119 : (Cond.eq (Term.elem (Term.field (Term.string "StyleRows$Names" 23) "java/lang/String" "value" "[B") (Term.int 4)) (Term.int 110)) ∈ flatC (Jvm.Cond.and given_1 narrow_1) := List.mem_of_getElem? (i := 119) (by decide +kernel)
theorem nr_120 : (Cond.eq (Term.elem (Term.field (Term.string "StyleRows$Names" 23) "java/lang/String" "value" "[B") (Term.int 5)) (Term.int 116)) ∈ flatC (Jvm.Cond.and given_1 narrow_1) := List.mem_of_getElem? (i := 120) (by decide +kernel)
theorem nr_121 : (Cond.not (Cond.eq (Term.string "StyleRows$Reader" 38) (Term.string "StyleRows$Names" 23))) ∈ flatC (Jvm.Cond.and given_1 narrow_1) := List.mem_of_getElem? (i := 121) (by decide +kernel)
theorem nr_122 : (Cond.not (Cond.eq (Term.string "StyleRows$Names" 15) (Term.string "StyleRows$Names" 23))) ∈ flatC (Jvm.Cond.and given_1 narrow_1) := List.mem_of_getElem? (i := 122) (by decide +kernel)
theorem nr_123 : (Cond.not (Cond.eq (Term.string "StyleRows$Names" 17) (Term.string "StyleRows$Names" 23))) ∈ flatC (Jvm.Cond.and given_1 narrow_1) := List.mem_of_getElem? (i := 123) (by decide +kernel)
theorem nr_124 : (Cond.not (Cond.eq (Term.string "StyleRows$Names" 19) (Term.string "StyleRows$Names" 23))) ∈ flatC (Jvm.Cond.and given_1 narrow_1) := List.mem_of_getElem? (i := 124) (by decide +kernel)
theorem nr_125 : (Cond.not (Cond.eq (Term.string "StyleRows$Names" 21) (Term.string "StyleRows$Names" 23))) ∈ flatC (Jvm.Cond.and given_1 narrow_1) := List.mem_of_getElem? (i := 125) (by decide +kernel)
theorem nr_126 : (Cond.exactly (Term.string "StyleRows$Names" 25) "java/lang/String") ∈ flatC (Jvm.Cond.and given_1 narrow_1) := List.mem_of_getElem? (i := 126) (by decide +kernel)
theorem nr_127 : (Cond.eq (Term.field (Term.string "StyleRows$Names" 25) "java/lang/String" "coder" "B") (Term.int 0)) ∈ flatC (Jvm.Cond.and given_1 narrow_1) := List.mem_of_getElem? (i := 127) (by decide +kernel)
theorem nr_128 : (Cond.arrayOf (Term.field (Term.string "StyleRows$Names" 25) "java/lang/String" "value" "[B") FieldType.byte) ∈ flatC (Jvm.Cond.and given_1 narrow_1) := List.mem_of_getElem? (i := 128) (by decide +kernel)
theorem nr_129 : (Cond.eq (Term.length (Term.field (Term.string "StyleRows$Names" 25) "java/lang/String" "value" "[B")) (Term.int 5)) ∈ flatC (Jvm.Cond.and given_1 narrow_1) := List.mem_of_getElem? (i := 129) (by decide +kernel)
theorem nr_130 : (Cond.eq (Term.elem (Term.field (Term.string "StyleRows$Names" 25) "java/lang/String" "value" "[B") (Term.int 0)) (Term.int 102)) ∈ flatC (Jvm.Cond.and given_1 narrow_1) := List.mem_of_getElem? (i := 130) (by decide +kernel)
theorem nr_131 : (Cond.eq (Term.elem (Term.field (Term.string "StyleRows$Names" 25) "java/lang/String" "value" "[B") (Term.int 1)) (Term.int 105)) ∈ flatC (Jvm.Cond.and given_1 narrow_1) := List.mem_of_getElem? (i := 131) (by decide +kernel)
theorem nr_132 : (Cond.eq (Term.elem (Term.field (Term.string "StyleRows$Names" 25) "java/lang/String" "value" "[B") (Term.int 2)) (Term.int 114)) ∈ flatC (Jvm.Cond.and given_1 narrow_1) := List.mem_of_getElem? (i := 132) (by decide +kernel)
theorem nr_133 : (Cond.eq (Term.elem (Term.field (Term.string "StyleRows$Names" 25) "java/lang/String" "value" "[B") (Term.int 3)) (Term.int 115)) ∈ flatC (Jvm.Cond.and given_1 narrow_1) := List.mem_of_getElem? (i := 133) (by decide +kernel)
theorem nr_134 : (Cond.eq (Term.elem (Term.field (Term.string "StyleRows$Names" 25) "java/lang/String" "value" "[B") (Term.int 4)) (Term.int 116)) ∈ flatC (Jvm.Cond.and given_1 narrow_1) := List.mem_of_getElem? (i := 134) (by decide +kernel)
theorem nr_135 : (Cond.not (Cond.eq (Term.string "StyleRows$Reader" 38) (Term.string "StyleRows$Names" 25))) ∈ flatC (Jvm.Cond.and given_1 narrow_1) := List.mem_of_getElem? (i := 135) (by decide +kernel)
theorem nr_136 : (Cond.not (Cond.eq (Term.string "StyleRows$Names" 15) (Term.string "StyleRows$Names" 25))) ∈ flatC (Jvm.Cond.and given_1 narrow_1) := List.mem_of_getElem? (i := 136) (by decide +kernel)
theorem nr_137 : (Cond.not (Cond.eq (Term.string "StyleRows$Names" 17) (Term.string "StyleRows$Names" 25))) ∈ flatC (Jvm.Cond.and given_1 narrow_1) := List.mem_of_getElem? (i := 137) (by decide +kernel)
theorem nr_138 : (Cond.not (Cond.eq (Term.string "StyleRows$Names" 19) (Term.string "StyleRows$Names" 25))) ∈ flatC (Jvm.Cond.and given_1 narrow_1) := List.mem_of_getElem? (i := 138) (by decide +kernel)
theorem nr_139 : (Cond.not (Cond.eq (Term.string "StyleRows$Names" 21) (Term.string "StyleRows$Names" 25))) ∈ flatC (Jvm.Cond.and given_1 narrow_1) := List.mem_of_getElem? (i := 139) (by decide +kernel)
theorem nr_140 : (Cond.not (Cond.eq (Term.string "StyleRows$Names" 23) (Term.string "StyleRows$Names" 25))) ∈ flatC (Jvm.Cond.and given_1 narrow_1) := List.mem_of_getElem? (i := 140) (by decide +kernel)
theorem nr_141 : (Cond.exactly (Term.string "StyleRows$Names" 27) "java/lang/String") ∈ flatC (Jvm.Cond.and given_1 narrow_1) := List.mem_of_getElem? (i := 141) (by decide +kernel)
theorem nr_142 : (Cond.eq (Term.field (Term.string "StyleRows$Names" 27) "java/lang/String" "coder" "B") (Term.int 0)) ∈ flatC (Jvm.Cond.and given_1 narrow_1) := List.mem_of_getElem? (i := 142) (by decide +kernel)
theorem nr_143 : (Cond.arrayOf (Term.field (Term.string "StyleRows$Names" 27) "java/lang/String" "value" "[B") FieldType.byte) ∈ flatC (Jvm.Cond.and given_1 narrow_1) := List.mem_of_getElem? (i := 143) (by decide +kernel)
theorem nr_144 : (Cond.eq (Term.length (Term.field (Term.string "StyleRows$Names" 27) "java/lang/String" "value" "[B")) (Term.int 4)) ∈ flatC (Jvm.Cond.and given_1 narrow_1) := List.mem_of_getElem? (i := 144) (by decide +kernel)
theorem nr_145 : (Cond.eq (Term.elem (Term.field (Term.string "StyleRows$Names" 27) "java/lang/String" "value" "[B") (Term.int 0)) (Term.int 98)) ∈ flatC (Jvm.Cond.and given_1 narrow_1) := List.mem_of_getElem? (i := 145) (by decide +kernel)
theorem nr_146 : (Cond.eq (Term.elem (Term.field (Term.string "StyleRows$Names" 27) "java/lang/String" "value" "[B") (Term.int 1)) (Term.int 101)) ∈ flatC (Jvm.Cond.and given_1 narrow_1) := List.mem_of_getElem? (i := 146) (by decide +kernel)
theorem nr_147 : (Cond.eq (Term.elem (Term.field (Term.string "StyleRows$Names" 27) "java/lang/String" "value" "[B") (Term.int 2)) (Term.int 97)) ∈ flatC (Jvm.Cond.and given_1 narrow_1) := List.mem_of_getElem? (i := 147) (by decide +kernel)
theorem nr_148 : (Cond.eq (Term.elem (Term.field (Term.string "StyleRows$Names" 27) "java/lang/String" "value" "[B") (Term.int 3)) (Term.int 116)) ∈ flatC (Jvm.Cond.and given_1 narrow_1) := List.mem_of_getElem? (i := 148) (by decide +kernel)
theorem nr_149 : (Cond.not (Cond.eq (Term.string "StyleRows$Reader" 38) (Term.string "StyleRows$Names" 27))) ∈ flatC (Jvm.Cond.and given_1 narrow_1) := List.mem_of_getElem? (i := 149) (by decide +kernel)
theorem nr_150 : (Cond.not (Cond.eq (Term.string "StyleRows$Names" 15) (Term.string "StyleRows$Names" 27))) ∈ flatC (Jvm.Cond.and given_1 narrow_1) := List.mem_of_getElem? (i := 150) (by decide +kernel)
theorem nr_151 : (Cond.not (Cond.eq (Term.string "StyleRows$Names" 17) (Term.string "StyleRows$Names" 27))) ∈ flatC (Jvm.Cond.and given_1 narrow_1) := List.mem_of_getElem? (i := 151) (by decide +kernel)
theorem nr_152 : (Cond.not (Cond.eq (Term.string "StyleRows$Names" 19) (Term.string "StyleRows$Names" 27))) ∈ flatC (Jvm.Cond.and given_1 narrow_1) := List.mem_of_getElem? (i := 152) (by decide +kernel)
theorem nr_153 : (Cond.not (Cond.eq (Term.string "StyleRows$Names" 21) (Term.string "StyleRows$Names" 27))) ∈ flatC (Jvm.Cond.and given_1 narrow_1) := List.mem_of_getElem? (i := 153) (by decide +kernel)
theorem nr_154 : (Cond.not (Cond.eq (Term.string "StyleRows$Names" 23) (Term.string "StyleRows$Names" 27))) ∈ flatC (Jvm.Cond.and given_1 narrow_1) := List.mem_of_getElem? (i := 154) (by decide +kernel)
theorem nr_155 : (Cond.not (Cond.eq (Term.string "StyleRows$Names" 25) (Term.string "StyleRows$Names" 27))) ∈ flatC (Jvm.Cond.and given_1 narrow_1) := List.mem_of_getElem? (i := 155) (by decide +kernel)
theorem nr_156 : (Cond.exactly (Term.string "StyleRows$Names" 29) "java/lang/String") ∈ flatC (Jvm.Cond.and given_1 narrow_1) := List.mem_of_getElem? (i := 156) (by decide +kernel)
theorem nr_157 : (Cond.eq (Term.field (Term.string "StyleRows$Names" 29) "java/lang/String" "coder" "B") (Term.int 0)) ∈ flatC (Jvm.Cond.and given_1 narrow_1) := List.mem_of_getElem? (i := 157) (by decide +kernel)
theorem nr_158 : (Cond.arrayOf (Term.field (Term.string "StyleRows$Names" 29) "java/lang/String" "value" "[B") FieldType.byte) ∈ flatC (Jvm.Cond.and given_1 narrow_1) := List.mem_of_getElem? (i := 158) (by decide +kernel)
theorem nr_159 : (Cond.eq (Term.length (Term.field (Term.string "StyleRows$Names" 29) "java/lang/String" "value" "[B")) (Term.int 5)) ∈ flatC (Jvm.Cond.and given_1 narrow_1) := List.mem_of_getElem? (i := 159) (by decide +kernel)
theorem nr_160 : (Cond.eq (Term.elem (Term.field (Term.string "StyleRows$Names" 29) "java/lang/String" "value" "[B") (Term.int 0)) (Term.int 116)) ∈ flatC (Jvm.Cond.and given_1 narrow_1) := List.mem_of_getElem? (i := 160) (by decide +kernel)
theorem nr_161 : (Cond.eq (Term.elem (Term.field (Term.string "StyleRows$Names" 29) "java/lang/String" "value" "[B") (Term.int 1)) (Term.int 114)) ∈ flatC (Jvm.Cond.and given_1 narrow_1) := List.mem_of_getElem? (i := 161) (by decide +kernel)
theorem nr_162 : (Cond.eq (Term.elem (Term.field (Term.string "StyleRows$Names" 29) "java/lang/String" "value" "[B") (Term.int 2)) (Term.int 105)) ∈ flatC (Jvm.Cond.and given_1 narrow_1) := List.mem_of_getElem? (i := 162) (by decide +kernel)
theorem nr_163 : (Cond.eq (Term.elem (Term.field (Term.string "StyleRows$Names" 29) "java/lang/String" "value" "[B") (Term.int 3)) (Term.int 108)) ∈ flatC (Jvm.Cond.and given_1 narrow_1) := List.mem_of_getElem? (i := 163) (by decide +kernel)
theorem nr_164 : (Cond.eq (Term.elem (Term.field (Term.string "StyleRows$Names" 29) "java/lang/String" "value" "[B") (Term.int 4)) (Term.int 108)) ∈ flatC (Jvm.Cond.and given_1 narrow_1) := List.mem_of_getElem? (i := 164) (by decide +kernel)
theorem nr_165 : (Cond.not (Cond.eq (Term.string "StyleRows$Reader" 38) (Term.string "StyleRows$Names" 29))) ∈ flatC (Jvm.Cond.and given_1 narrow_1) := List.mem_of_getElem? (i := 165) (by decide +kernel)
theorem nr_166 : (Cond.not (Cond.eq (Term.string "StyleRows$Names" 15) (Term.string "StyleRows$Names" 29))) ∈ flatC (Jvm.Cond.and given_1 narrow_1) := List.mem_of_getElem? (i := 166) (by decide +kernel)
theorem nr_167 : (Cond.not (Cond.eq (Term.string "StyleRows$Names" 17) (Term.string "StyleRows$Names" 29))) ∈ flatC (Jvm.Cond.and given_1 narrow_1) := List.mem_of_getElem? (i := 167) (by decide +kernel)
theorem nr_168 : (Cond.not (Cond.eq (Term.string "StyleRows$Names" 19) (Term.string "StyleRows$Names" 29))) ∈ flatC (Jvm.Cond.and given_1 narrow_1) := List.mem_of_getElem? (i := 168) (by decide +kernel)
theorem nr_169 : (Cond.not (Cond.eq (Term.string "StyleRows$Names" 21) (Term.string "StyleRows$Names" 29))) ∈ flatC (Jvm.Cond.and given_1 narrow_1) := List.mem_of_getElem? (i := 169) (by decide +kernel)
theorem nr_170 : (Cond.not (Cond.eq (Term.string "StyleRows$Names" 23) (Term.string "StyleRows$Names" 29))) ∈ flatC (Jvm.Cond.and given_1 narrow_1) := List.mem_of_getElem? (i := 170) (by decide +kernel)
theorem nr_171 : (Cond.not (Cond.eq (Term.string "StyleRows$Names" 25) (Term.string "StyleRows$Names" 29))) ∈ flatC (Jvm.Cond.and given_1 narrow_1) := List.mem_of_getElem? (i := 171) (by decide +kernel)
theorem nr_172 : (Cond.not (Cond.eq (Term.string "StyleRows$Names" 27) (Term.string "StyleRows$Names" 29))) ∈ flatC (Jvm.Cond.and given_1 narrow_1) := List.mem_of_getElem? (i := 172) (by decide +kernel)
theorem nr_173 : (Cond.exactly (Term.string "StyleRows$Names" 31) "java/lang/String") ∈ flatC (Jvm.Cond.and given_1 narrow_1) := List.mem_of_getElem? (i := 173) (by decide +kernel)
theorem nr_174 : (Cond.eq (Term.field (Term.string "StyleRows$Names" 31) "java/lang/String" "coder" "B") (Term.int 0)) ∈ flatC (Jvm.Cond.and given_1 narrow_1) := List.mem_of_getElem? (i := 174) (by decide +kernel)
theorem nr_175 : (Cond.arrayOf (Term.field (Term.string "StyleRows$Names" 31) "java/lang/String" "value" "[B") FieldType.byte) ∈ flatC (Jvm.Cond.and given_1 narrow_1) := List.mem_of_getElem? (i := 175) (by decide +kernel)
theorem nr_176 : (Cond.eq (Term.length (Term.field (Term.string "StyleRows$Names" 31) "java/lang/String" "value" "[B")) (Term.int 5)) ∈ flatC (Jvm.Cond.and given_1 narrow_1) := List.mem_of_getElem? (i := 176) (by decide +kernel)
theorem nr_177 : (Cond.eq (Term.elem (Term.field (Term.string "StyleRows$Names" 31) "java/lang/String" "value" "[B") (Term.int 0)) (Term.int 117)) ∈ flatC (Jvm.Cond.and given_1 narrow_1) := List.mem_of_getElem? (i := 177) (by decide +kernel)
theorem nr_178 : (Cond.eq (Term.elem (Term.field (Term.string "StyleRows$Names" 31) "java/lang/String" "value" "[B") (Term.int 1)) (Term.int 112)) ∈ flatC (Jvm.Cond.and given_1 narrow_1) := List.mem_of_getElem? (i := 178) (by decide +kernel)
theorem nr_179 : (Cond.eq (Term.elem (Term.field (Term.string "StyleRows$Names" 31) "java/lang/String" "value" "[B") (Term.int 2)) (Term.int 112)) ∈ flatC (Jvm.Cond.and given_1 narrow_1) := List.mem_of_getElem? (i := 179) (by decide +kernel)
theorem nr_180 : (Cond.eq (Term.elem (Term.field (Term.string "StyleRows$Names" 31) "java/lang/String" "value" "[B") (Term.int 3)) (Term.int 101)) ∈ flatC (Jvm.Cond.and given_1 narrow_1) := List.mem_of_getElem? (i := 180) (by decide +kernel)
theorem nr_181 : (Cond.eq (Term.elem (Term.field (Term.string "StyleRows$Names" 31) "java/lang/String" "value" "[B") (Term.int 4)) (Term.int 114)) ∈ flatC (Jvm.Cond.and given_1 narrow_1) := List.mem_of_getElem? (i := 181) (by decide +kernel)
theorem nr_182 : (Cond.not (Cond.eq (Term.string "StyleRows$Reader" 38) (Term.string "StyleRows$Names" 31))) ∈ flatC (Jvm.Cond.and given_1 narrow_1) := List.mem_of_getElem? (i := 182) (by decide +kernel)
theorem nr_183 : (Cond.not (Cond.eq (Term.string "StyleRows$Names" 15) (Term.string "StyleRows$Names" 31))) ∈ flatC (Jvm.Cond.and given_1 narrow_1) := List.mem_of_getElem? (i := 183) (by decide +kernel)
theorem nr_184 : (Cond.not (Cond.eq (Term.string "StyleRows$Names" 17) (Term.string "StyleRows$Names" 31))) ∈ flatC (Jvm.Cond.and given_1 narrow_1) := List.mem_of_getElem? (i := 184) (by decide +kernel)
theorem nr_185 : (Cond.not (Cond.eq (Term.string "StyleRows$Names" 19) (Term.string "StyleRows$Names" 31))) ∈ flatC (Jvm.Cond.and given_1 narrow_1) := List.mem_of_getElem? (i := 185) (by decide +kernel)
theorem nr_186 : (Cond.not (Cond.eq (Term.string "StyleRows$Names" 21) (Term.string "StyleRows$Names" 31))) ∈ flatC (Jvm.Cond.and given_1 narrow_1) := List.mem_of_getElem? (i := 186) (by decide +kernel)
theorem nr_187 : (Cond.not (Cond.eq (Term.string "StyleRows$Names" 23) (Term.string "StyleRows$Names" 31))) ∈ flatC (Jvm.Cond.and given_1 narrow_1) := List.mem_of_getElem? (i := 187) (by decide +kernel)
theorem nr_188 : (Cond.not (Cond.eq (Term.string "StyleRows$Names" 25) (Term.string "StyleRows$Names" 31))) ∈ flatC (Jvm.Cond.and given_1 narrow_1) := List.mem_of_getElem? (i := 188) (by decide +kernel)
theorem nr_189 : (Cond.not (Cond.eq (Term.string "StyleRows$Names" 27) (Term.string "StyleRows$Names" 31))) ∈ flatC (Jvm.Cond.and given_1 narrow_1) := List.mem_of_getElem? (i := 189) (by decide +kernel)
theorem nr_190 : (Cond.not (Cond.eq (Term.string "StyleRows$Names" 29) (Term.string "StyleRows$Names" 31))) ∈ flatC (Jvm.Cond.and given_1 narrow_1) := List.mem_of_getElem? (i := 190) (by decide +kernel)
theorem nr_191 : (Cond.exactly (Term.string "StyleRows$Names" 33) "java/lang/String") ∈ flatC (Jvm.Cond.and given_1 narrow_1) := List.mem_of_getElem? (i := 191) (by decide +kernel)
theorem nr_192 : (Cond.eq (Term.field (Term.string "StyleRows$Names" 33) "java/lang/String" "coder" "B") (Term.int 0)) ∈ flatC (Jvm.Cond.and given_1 narrow_1) := List.mem_of_getElem? (i := 192) (by decide +kernel)
theorem nr_193 : (Cond.arrayOf (Term.field (Term.string "StyleRows$Names" 33) "java/lang/String" "value" "[B") FieldType.byte) ∈ flatC (Jvm.Cond.and given_1 narrow_1) := List.mem_of_getElem? (i := 193) (by decide +kernel)
theorem nr_194 : (Cond.eq (Term.length (Term.field (Term.string "StyleRows$Names" 33) "java/lang/String" "value" "[B")) (Term.int 4)) ∈ flatC (Jvm.Cond.and given_1 narrow_1) := List.mem_of_getElem? (i := 194) (by decide +kernel)
theorem nr_195 : (Cond.eq (Term.elem (Term.field (Term.string "StyleRows$Names" 33) "java/lang/String" "value" "[B") (Term.int 0)) (Term.int 116)) ∈ flatC (Jvm.Cond.and given_1 narrow_1) := List.mem_of_getElem? (i := 195) (by decide +kernel)
theorem nr_196 : (Cond.eq (Term.elem (Term.field (Term.string "StyleRows$Names" 33) "java/lang/String" "value" "[B") (Term.int 1)) (Term.int 117)) ∈ flatC (Jvm.Cond.and given_1 narrow_1) := List.mem_of_getElem? (i := 196) (by decide +kernel)
theorem nr_197 : (Cond.eq (Term.elem (Term.field (Term.string "StyleRows$Names" 33) "java/lang/String" "value" "[B") (Term.int 2)) (Term.int 114)) ∈ flatC (Jvm.Cond.and given_1 narrow_1) := List.mem_of_getElem? (i := 197) (by decide +kernel)
theorem nr_198 : (Cond.eq (Term.elem (Term.field (Term.string "StyleRows$Names" 33) "java/lang/String" "value" "[B") (Term.int 3)) (Term.int 110)) ∈ flatC (Jvm.Cond.and given_1 narrow_1) := List.mem_of_getElem? (i := 198) (by decide +kernel)
theorem nr_199 : (Cond.not (Cond.eq (Term.string "StyleRows$Reader" 38) (Term.string "StyleRows$Names" 33))) ∈ flatC (Jvm.Cond.and given_1 narrow_1) := List.mem_of_getElem? (i := 199) (by decide +kernel)
theorem nr_200 : (Cond.not (Cond.eq (Term.string "StyleRows$Names" 15) (Term.string "StyleRows$Names" 33))) ∈ flatC (Jvm.Cond.and given_1 narrow_1) := List.mem_of_getElem? (i := 200) (by decide +kernel)
theorem nr_201 : (Cond.not (Cond.eq (Term.string "StyleRows$Names" 17) (Term.string "StyleRows$Names" 33))) ∈ flatC (Jvm.Cond.and given_1 narrow_1) := List.mem_of_getElem? (i := 201) (by decide +kernel)
theorem nr_202 : (Cond.not (Cond.eq (Term.string "StyleRows$Names" 19) (Term.string "StyleRows$Names" 33))) ∈ flatC (Jvm.Cond.and given_1 narrow_1) := List.mem_of_getElem? (i := 202) (by decide +kernel)
theorem nr_203 : (Cond.not (Cond.eq (Term.string "StyleRows$Names" 21) (Term.string "StyleRows$Names" 33))) ∈ flatC (Jvm.Cond.and given_1 narrow_1) := List.mem_of_getElem? (i := 203) (by decide +kernel)
theorem nr_204 : (Cond.not (Cond.eq (Term.string "StyleRows$Names" 23) (Term.string "StyleRows$Names" 33))) ∈ flatC (Jvm.Cond.and given_1 narrow_1) := List.mem_of_getElem? (i := 204) (by decide +kernel)
theorem nr_205 : (Cond.not (Cond.eq (Term.string "StyleRows$Names" 25) (Term.string "StyleRows$Names" 33))) ∈ flatC (Jvm.Cond.and given_1 narrow_1) := List.mem_of_getElem? (i := 205) (by decide +kernel)
theorem nr_206 : (Cond.not (Cond.eq (Term.string "StyleRows$Names" 27) (Term.string "StyleRows$Names" 33))) ∈ flatC (Jvm.Cond.and given_1 narrow_1) := List.mem_of_getElem? (i := 206) (by decide +kernel)
theorem nr_207 : (Cond.not (Cond.eq (Term.string "StyleRows$Names" 29) (Term.string "StyleRows$Names" 33))) ∈ flatC (Jvm.Cond.and given_1 narrow_1) := List.mem_of_getElem? (i := 207) (by decide +kernel)
theorem nr_208 : (Cond.not (Cond.eq (Term.string "StyleRows$Names" 31) (Term.string "StyleRows$Names" 33))) ∈ flatC (Jvm.Cond.and given_1 narrow_1) := List.mem_of_getElem? (i := 208) (by decide +kernel)
theorem nr_209 : (Cond.exactly (Term.string "StyleRows$Names" 35) "java/lang/String") ∈ flatC (Jvm.Cond.and given_1 narrow_1) := List.mem_of_getElem? (i := 209) (by decide +kernel)
theorem nr_210 : (Cond.eq (Term.field (Term.string "StyleRows$Names" 35) "java/lang/String" "coder" "B") (Term.int 0)) ∈ flatC (Jvm.Cond.and given_1 narrow_1) := List.mem_of_getElem? (i := 210) (by decide +kernel)
theorem nr_211 : (Cond.arrayOf (Term.field (Term.string "StyleRows$Names" 35) "java/lang/String" "value" "[B") FieldType.byte) ∈ flatC (Jvm.Cond.and given_1 narrow_1) := List.mem_of_getElem? (i := 211) (by decide +kernel)
theorem nr_212 : (Cond.eq (Term.length (Term.field (Term.string "StyleRows$Names" 35) "java/lang/String" "value" "[B")) (Term.int 4)) ∈ flatC (Jvm.Cond.and given_1 narrow_1) := List.mem_of_getElem? (i := 212) (by decide +kernel)
theorem nr_213 : (Cond.eq (Term.elem (Term.field (Term.string "StyleRows$Names" 35) "java/lang/String" "value" "[B") (Term.int 0)) (Term.int 108)) ∈ flatC (Jvm.Cond.and given_1 narrow_1) := List.mem_of_getElem? (i := 213) (by decide +kernel)
theorem nr_214 : (Cond.eq (Term.elem (Term.field (Term.string "StyleRows$Names" 35) "java/lang/String" "value" "[B") (Term.int 1)) (Term.int 101)) ∈ flatC (Jvm.Cond.and given_1 narrow_1) := List.mem_of_getElem? (i := 214) (by decide +kernel)
theorem nr_215 : (Cond.eq (Term.elem (Term.field (Term.string "StyleRows$Names" 35) "java/lang/String" "value" "[B") (Term.int 2)) (Term.int 97)) ∈ flatC (Jvm.Cond.and given_1 narrow_1) := List.mem_of_getElem? (i := 215) (by decide +kernel)
theorem nr_216 : (Cond.eq (Term.elem (Term.field (Term.string "StyleRows$Names" 35) "java/lang/String" "value" "[B") (Term.int 3)) (Term.int 110)) ∈ flatC (Jvm.Cond.and given_1 narrow_1) := List.mem_of_getElem? (i := 216) (by decide +kernel)
theorem nr_217 : (Cond.not (Cond.eq (Term.string "StyleRows$Reader" 38) (Term.string "StyleRows$Names" 35))) ∈ flatC (Jvm.Cond.and given_1 narrow_1) := List.mem_of_getElem? (i := 217) (by decide +kernel)
theorem nr_218 : (Cond.not (Cond.eq (Term.string "StyleRows$Names" 15) (Term.string "StyleRows$Names" 35))) ∈ flatC (Jvm.Cond.and given_1 narrow_1) := List.mem_of_getElem? (i := 218) (by decide +kernel)
theorem nr_219 : (Cond.not (Cond.eq (Term.string "StyleRows$Names" 17) (Term.string "StyleRows$Names" 35))) ∈ flatC (Jvm.Cond.and given_1 narrow_1) := List.mem_of_getElem? (i := 219) (by decide +kernel)
theorem nr_220 : (Cond.not (Cond.eq (Term.string "StyleRows$Names" 19) (Term.string "StyleRows$Names" 35))) ∈ flatC (Jvm.Cond.and given_1 narrow_1) := List.mem_of_getElem? (i := 220) (by decide +kernel)
theorem nr_221 : (Cond.not (Cond.eq (Term.string "StyleRows$Names" 21) (Term.string "StyleRows$Names" 35))) ∈ flatC (Jvm.Cond.and given_1 narrow_1) := List.mem_of_getElem? (i := 221) (by decide +kernel)
theorem nr_222 : (Cond.not (Cond.eq (Term.string "StyleRows$Names" 23) (Term.string "StyleRows$Names" 35))) ∈ flatC (Jvm.Cond.and given_1 narrow_1) := List.mem_of_getElem? (i := 222) (by decide +kernel)
theorem nr_223 : (Cond.not (Cond.eq (Term.string "StyleRows$Names" 25) (Term.string "StyleRows$Names" 35))) ∈ flatC (Jvm.Cond.and given_1 narrow_1) := List.mem_of_getElem? (i := 223) (by decide +kernel)
theorem nr_224 : (Cond.not (Cond.eq (Term.string "StyleRows$Names" 27) (Term.string "StyleRows$Names" 35))) ∈ flatC (Jvm.Cond.and given_1 narrow_1) := List.mem_of_getElem? (i := 224) (by decide +kernel)
theorem nr_225 : (Cond.not (Cond.eq (Term.string "StyleRows$Names" 29) (Term.string "StyleRows$Names" 35))) ∈ flatC (Jvm.Cond.and given_1 narrow_1) := List.mem_of_getElem? (i := 225) (by decide +kernel)
theorem nr_226 : (Cond.not (Cond.eq (Term.string "StyleRows$Names" 31) (Term.string "StyleRows$Names" 35))) ∈ flatC (Jvm.Cond.and given_1 narrow_1) := List.mem_of_getElem? (i := 226) (by decide +kernel)
theorem nr_227 : (Cond.not (Cond.eq (Term.string "StyleRows$Names" 33) (Term.string "StyleRows$Names" 35))) ∈ flatC (Jvm.Cond.and given_1 narrow_1) := List.mem_of_getElem? (i := 227) (by decide +kernel)
theorem nr_228 : (Cond.exactly (Term.string "StyleRows$Names" 37) "java/lang/String") ∈ flatC (Jvm.Cond.and given_1 narrow_1) := List.mem_of_getElem? (i := 228) (by decide +kernel)
theorem nr_229 : (Cond.eq (Term.field (Term.string "StyleRows$Names" 37) "java/lang/String" "coder" "B") (Term.int 0)) ∈ flatC (Jvm.Cond.and given_1 narrow_1) := List.mem_of_getElem? (i := 229) (by decide +kernel)
theorem nr_230 : (Cond.arrayOf (Term.field (Term.string "StyleRows$Names" 37) "java/lang/String" "value" "[B") FieldType.byte) ∈ flatC (Jvm.Cond.and given_1 narrow_1) := List.mem_of_getElem? (i := 230) (by decide +kernel)
theorem nr_231 : (Cond.eq (Term.length (Term.field (Term.string "StyleRows$Names" 37) "java/lang/String" "value" "[B")) (Term.int 4)) ∈ flatC (Jvm.Cond.and given_1 narrow_1) := List.mem_of_getElem? (i := 231) (by decide +kernel)
theorem nr_232 : (Cond.eq (Term.elem (Term.field (Term.string "StyleRows$Names" 37) "java/lang/String" "value" "[B") (Term.int 0)) (Term.int 114)) ∈ flatC (Jvm.Cond.and given_1 narrow_1) := List.mem_of_getElem? (i := 232) (by decide +kernel)
theorem nr_233 : (Cond.eq (Term.elem (Term.field (Term.string "StyleRows$Names" 37) "java/lang/String" "value" "[B") (Term.int 1)) (Term.int 111)) ∈ flatC (Jvm.Cond.and given_1 narrow_1) := List.mem_of_getElem? (i := 233) (by decide +kernel)
theorem nr_234 : (Cond.eq (Term.elem (Term.field (Term.string "StyleRows$Names" 37) "java/lang/String" "value" "[B") (Term.int 2)) (Term.int 108)) ∈ flatC (Jvm.Cond.and given_1 narrow_1) := List.mem_of_getElem? (i := 234) (by decide +kernel)
theorem nr_235 : (Cond.eq (Term.elem (Term.field (Term.string "StyleRows$Names" 37) "java/lang/String" "value" "[B") (Term.int 3)) (Term.int 108)) ∈ flatC (Jvm.Cond.and given_1 narrow_1) := List.mem_of_getElem? (i := 235) (by decide +kernel)
theorem nr_236 : (Cond.not (Cond.eq (Term.string "StyleRows$Reader" 38) (Term.string "StyleRows$Names" 37))) ∈ flatC (Jvm.Cond.and given_1 narrow_1) := List.mem_of_getElem? (i := 236) (by decide +kernel)
theorem nr_237 : (Cond.not (Cond.eq (Term.string "StyleRows$Names" 15) (Term.string "StyleRows$Names" 37))) ∈ flatC (Jvm.Cond.and given_1 narrow_1) := List.mem_of_getElem? (i := 237) (by decide +kernel)
theorem nr_238 : (Cond.not (Cond.eq (Term.string "StyleRows$Names" 17) (Term.string "StyleRows$Names" 37))) ∈ flatC (Jvm.Cond.and given_1 narrow_1) := List.mem_of_getElem? (i := 238) (by decide +kernel)
theorem nr_239 : (Cond.not (Cond.eq (Term.string "StyleRows$Names" 19) (Term.string "StyleRows$Names" 37))) ∈ flatC (Jvm.Cond.and given_1 narrow_1) := List.mem_of_getElem? (i := 239) (by decide +kernel)
theorem nr_240 : (Cond.not (Cond.eq (Term.string "StyleRows$Names" 21) (Term.string "StyleRows$Names" 37))) ∈ flatC (Jvm.Cond.and given_1 narrow_1) := List.mem_of_getElem? (i := 240) (by decide +kernel)
theorem nr_241 : (Cond.not (Cond.eq (Term.string "StyleRows$Names" 23) (Term.string "StyleRows$Names" 37))) ∈ flatC (Jvm.Cond.and given_1 narrow_1) := List.mem_of_getElem? (i := 241) (by decide +kernel)
theorem nr_242 : (Cond.not (Cond.eq (Term.string "StyleRows$Names" 25) (Term.string "StyleRows$Names" 37))) ∈ flatC (Jvm.Cond.and given_1 narrow_1) := List.mem_of_getElem? (i := 242) (by decide +kernel)
theorem nr_243 : (Cond.not (Cond.eq (Term.string "StyleRows$Names" 27) (Term.string "StyleRows$Names" 37))) ∈ flatC (Jvm.Cond.and given_1 narrow_1) := List.mem_of_getElem? (i := 243) (by decide +kernel)
theorem nr_244 : (Cond.not (Cond.eq (Term.string "StyleRows$Names" 29) (Term.string "StyleRows$Names" 37))) ∈ flatC (Jvm.Cond.and given_1 narrow_1) := List.mem_of_getElem? (i := 244) (by decide +kernel)
theorem nr_245 : (Cond.not (Cond.eq (Term.string "StyleRows$Names" 31) (Term.string "StyleRows$Names" 37))) ∈ flatC (Jvm.Cond.and given_1 narrow_1) := List.mem_of_getElem? (i := 245) (by decide +kernel)
theorem nr_246 : (Cond.not (Cond.eq (Term.string "StyleRows$Names" 33) (Term.string "StyleRows$Names" 37))) ∈ flatC (Jvm.Cond.and given_1 narrow_1) := List.mem_of_getElem? (i := 246) (by decide +kernel)
theorem nr_247 : (Cond.not (Cond.eq (Term.string "StyleRows$Names" 35) (Term.string "StyleRows$Names" 37))) ∈ flatC (Jvm.Cond.and given_1 narrow_1) := List.mem_of_getElem? (i := 247) (by decide +kernel)
theorem nr_248 : (Cond.exactly (Term.string "StyleRows$Names" 39) "java/lang/String") ∈ flatC (Jvm.Cond.and given_1 narrow_1) := List.mem_of_getElem? (i := 248) (by decide +kernel)
theorem nr_249 : (Cond.eq (Term.field (Term.string "StyleRows$Names" 39) "java/lang/String" "coder" "B") (Term.int 0)) ∈ flatC (Jvm.Cond.and given_1 narrow_1) := List.mem_of_getElem? (i := 249) (by decide +kernel)
theorem nr_250 : (Cond.arrayOf (Term.field (Term.string "StyleRows$Names" 39) "java/lang/String" "value" "[B") FieldType.byte) ∈ flatC (Jvm.Cond.and given_1 narrow_1) := List.mem_of_getElem? (i := 250) (by decide +kernel)
theorem nr_251 : (Cond.eq (Term.length (Term.field (Term.string "StyleRows$Names" 39) "java/lang/String" "value" "[B")) (Term.int 5)) ∈ flatC (Jvm.Cond.and given_1 narrow_1) := List.mem_of_getElem? (i := 251) (by decide +kernel)
theorem nr_252 : (Cond.eq (Term.elem (Term.field (Term.string "StyleRows$Names" 39) "java/lang/String" "value" "[B") (Term.int 0)) (Term.int 108)) ∈ flatC (Jvm.Cond.and given_1 narrow_1) := List.mem_of_getElem? (i := 252) (by decide +kernel)
theorem nr_253 : (Cond.eq (Term.elem (Term.field (Term.string "StyleRows$Names" 39) "java/lang/String" "value" "[B") (Term.int 1)) (Term.int 111)) ∈ flatC (Jvm.Cond.and given_1 narrow_1) := List.mem_of_getElem? (i := 253) (by decide +kernel)
theorem nr_254 : (Cond.eq (Term.elem (Term.field (Term.string "StyleRows$Names" 39) "java/lang/String" "value" "[B") (Term.int 2)) (Term.int 111)) ∈ flatC (Jvm.Cond.and given_1 narrow_1) := List.mem_of_getElem? (i := 254) (by decide +kernel)
theorem nr_255 : (Cond.eq (Term.elem (Term.field (Term.string "StyleRows$Names" 39) "java/lang/String" "value" "[B") (Term.int 3)) (Term.int 115)) ∈ flatC (Jvm.Cond.and given_1 narrow_1) := List.mem_of_getElem? (i := 255) (by decide +kernel)
theorem nr_256 : (Cond.eq (Term.elem (Term.field (Term.string "StyleRows$Names" 39) "java/lang/String" "value" "[B") (Term.int 4)) (Term.int 101)) ∈ flatC (Jvm.Cond.and given_1 narrow_1) := List.mem_of_getElem? (i := 256) (by decide +kernel)
theorem nr_257 : (Cond.not (Cond.eq (Term.string "StyleRows$Reader" 38) (Term.string "StyleRows$Names" 39))) ∈ flatC (Jvm.Cond.and given_1 narrow_1) := List.mem_of_getElem? (i := 257) (by decide +kernel)
theorem nr_258 : (Cond.not (Cond.eq (Term.string "StyleRows$Names" 15) (Term.string "StyleRows$Names" 39))) ∈ flatC (Jvm.Cond.and given_1 narrow_1) := List.mem_of_getElem? (i := 258) (by decide +kernel)
theorem nr_259 : (Cond.not (Cond.eq (Term.string "StyleRows$Names" 17) (Term.string "StyleRows$Names" 39))) ∈ flatC (Jvm.Cond.and given_1 narrow_1) := List.mem_of_getElem? (i := 259) (by decide +kernel)
theorem nr_260 : (Cond.not (Cond.eq (Term.string "StyleRows$Names" 19) (Term.string "StyleRows$Names" 39))) ∈ flatC (Jvm.Cond.and given_1 narrow_1) := List.mem_of_getElem? (i := 260) (by decide +kernel)
theorem nr_261 : (Cond.not (Cond.eq (Term.string "StyleRows$Names" 21) (Term.string "StyleRows$Names" 39))) ∈ flatC (Jvm.Cond.and given_1 narrow_1) := List.mem_of_getElem? (i := 261) (by decide +kernel)
theorem nr_262 : (Cond.not (Cond.eq (Term.string "StyleRows$Names" 23) (Term.string "StyleRows$Names" 39))) ∈ flatC (Jvm.Cond.and given_1 narrow_1) := List.mem_of_getElem? (i := 262) (by decide +kernel)
theorem nr_263 : (Cond.not (Cond.eq (Term.string "StyleRows$Names" 25) (Term.string "StyleRows$Names" 39))) ∈ flatC (Jvm.Cond.and given_1 narrow_1) := List.mem_of_getElem? (i := 263) (by decide +kernel)
theorem nr_264 : (Cond.not (Cond.eq (Term.string "StyleRows$Names" 27) (Term.string "StyleRows$Names" 39))) ∈ flatC (Jvm.Cond.and given_1 narrow_1) := List.mem_of_getElem? (i := 264) (by decide +kernel)
theorem nr_265 : (Cond.not (Cond.eq (Term.string "StyleRows$Names" 29) (Term.string "StyleRows$Names" 39))) ∈ flatC (Jvm.Cond.and given_1 narrow_1) := List.mem_of_getElem? (i := 265) (by decide +kernel)
theorem nr_266 : (Cond.not (Cond.eq (Term.string "StyleRows$Names" 31) (Term.string "StyleRows$Names" 39))) ∈ flatC (Jvm.Cond.and given_1 narrow_1) := List.mem_of_getElem? (i := 266) (by decide +kernel)
theorem nr_267 : (Cond.not (Cond.eq (Term.string "StyleRows$Names" 33) (Term.string "StyleRows$Names" 39))) ∈ flatC (Jvm.Cond.and given_1 narrow_1) := List.mem_of_getElem? (i := 267) (by decide +kernel)
theorem nr_268 : (Cond.not (Cond.eq (Term.string "StyleRows$Names" 35) (Term.string "StyleRows$Names" 39))) ∈ flatC (Jvm.Cond.and given_1 narrow_1) := List.mem_of_getElem? (i := 268) (by decide +kernel)
theorem nr_269 : (Cond.not (Cond.eq (Term.string "StyleRows$Names" 37) (Term.string "StyleRows$Names" 39))) ∈ flatC (Jvm.Cond.and given_1 narrow_1) := List.mem_of_getElem? (i := 269) (by decide +kernel)
theorem nr_270 : (Cond.exactly (Term.string "StyleRows$Names" 41) "java/lang/String") ∈ flatC (Jvm.Cond.and given_1 narrow_1) := List.mem_of_getElem? (i := 270) (by decide +kernel)
theorem nr_271 : (Cond.eq (Term.field (Term.string "StyleRows$Names" 41) "java/lang/String" "coder" "B") (Term.int 0)) ∈ flatC (Jvm.Cond.and given_1 narrow_1) := List.mem_of_getElem? (i := 271) (by decide +kernel)
theorem nr_272 : (Cond.arrayOf (Term.field (Term.string "StyleRows$Names" 41) "java/lang/String" "value" "[B") FieldType.byte) ∈ flatC (Jvm.Cond.and given_1 narrow_1) := List.mem_of_getElem? (i := 272) (by decide +kernel)
theorem nr_273 : (Cond.eq (Term.length (Term.field (Term.string "StyleRows$Names" 41) "java/lang/String" "value" "[B")) (Term.int 0)) ∈ flatC (Jvm.Cond.and given_1 narrow_1) := List.mem_of_getElem? (i := 273) (by decide +kernel)
theorem nr_274 : (Cond.not (Cond.eq (Term.string "StyleRows$Reader" 38) (Term.string "StyleRows$Names" 41))) ∈ flatC (Jvm.Cond.and given_1 narrow_1) := List.mem_of_getElem? (i := 274) (by decide +kernel)
theorem nr_275 : (Cond.not (Cond.eq (Term.string "StyleRows$Names" 15) (Term.string "StyleRows$Names" 41))) ∈ flatC (Jvm.Cond.and given_1 narrow_1) := List.mem_of_getElem? (i := 275) (by decide +kernel)
theorem nr_276 : (Cond.not (Cond.eq (Term.string "StyleRows$Names" 17) (Term.string "StyleRows$Names" 41))) ∈ flatC (Jvm.Cond.and given_1 narrow_1) := List.mem_of_getElem? (i := 276) (by decide +kernel)
theorem nr_277 : (Cond.not (Cond.eq (Term.string "StyleRows$Names" 19) (Term.string "StyleRows$Names" 41))) ∈ flatC (Jvm.Cond.and given_1 narrow_1) := List.mem_of_getElem? (i := 277) (by decide +kernel)
theorem nr_278 : (Cond.not (Cond.eq (Term.string "StyleRows$Names" 21) (Term.string "StyleRows$Names" 41))) ∈ flatC (Jvm.Cond.and given_1 narrow_1) := List.mem_of_getElem? (i := 278) (by decide +kernel)
theorem nr_279 : (Cond.not (Cond.eq (Term.string "StyleRows$Names" 23) (Term.string "StyleRows$Names" 41))) ∈ flatC (Jvm.Cond.and given_1 narrow_1) := List.mem_of_getElem? (i := 279) (by decide +kernel)
theorem nr_280 : (Cond.not (Cond.eq (Term.string "StyleRows$Names" 25) (Term.string "StyleRows$Names" 41))) ∈ flatC (Jvm.Cond.and given_1 narrow_1) := List.mem_of_getElem? (i := 280) (by decide +kernel)
theorem nr_281 : (Cond.not (Cond.eq (Term.string "StyleRows$Names" 27) (Term.string "StyleRows$Names" 41))) ∈ flatC (Jvm.Cond.and given_1 narrow_1) := List.mem_of_getElem? (i := 281) (by decide +kernel)
theorem nr_282 : (Cond.not (Cond.eq (Term.string "StyleRows$Names" 29) (Term.string "StyleRows$Names" 41))) ∈ flatC (Jvm.Cond.and given_1 narrow_1) := List.mem_of_getElem? (i := 282) (by decide +kernel)
theorem nr_283 : (Cond.not (Cond.eq (Term.string "StyleRows$Names" 31) (Term.string "StyleRows$Names" 41))) ∈ flatC (Jvm.Cond.and given_1 narrow_1) := List.mem_of_getElem? (i := 283) (by decide +kernel)
theorem nr_284 : (Cond.not (Cond.eq (Term.string "StyleRows$Names" 33) (Term.string "StyleRows$Names" 41))) ∈ flatC (Jvm.Cond.and given_1 narrow_1) := List.mem_of_getElem? (i := 284) (by decide +kernel)
theorem nr_285 : (Cond.not (Cond.eq (Term.string "StyleRows$Names" 35) (Term.string "StyleRows$Names" 41))) ∈ flatC (Jvm.Cond.and given_1 narrow_1) := List.mem_of_getElem? (i := 285) (by decide +kernel)
theorem nr_286 : (Cond.not (Cond.eq (Term.string "StyleRows$Names" 37) (Term.string "StyleRows$Names" 41))) ∈ flatC (Jvm.Cond.and given_1 narrow_1) := List.mem_of_getElem? (i := 286) (by decide +kernel)
theorem nr_287 : (Cond.not (Cond.eq (Term.string "StyleRows$Names" 39) (Term.string "StyleRows$Names" 41))) ∈ flatC (Jvm.Cond.and given_1 narrow_1) := List.mem_of_getElem? (i := 287) (by decide +kernel)
theorem nr_288 : (Cond.exactly (Term.string "StyleRows$Reader" 64) "java/lang/String") ∈ flatC (Jvm.Cond.and given_1 narrow_1) := List.mem_of_getElem? (i := 288) (by decide +kernel)
theorem nr_289 : (Cond.eq (Term.field (Term.string "StyleRows$Reader" 64) "java/lang/String" "coder" "B") (Term.int 0)) ∈ flatC (Jvm.Cond.and given_1 narrow_1) := List.mem_of_getElem? (i := 289) (by decide +kernel)
theorem nr_290 : (Cond.arrayOf (Term.field (Term.string "StyleRows$Reader" 64) "java/lang/String" "value" "[B") FieldType.byte) ∈ flatC (Jvm.Cond.and given_1 narrow_1) := List.mem_of_getElem? (i := 290) (by decide +kernel)
theorem nr_291 : (Cond.eq (Term.length (Term.field (Term.string "StyleRows$Reader" 64) "java/lang/String" "value" "[B")) (Term.int 4)) ∈ flatC (Jvm.Cond.and given_1 narrow_1) := List.mem_of_getElem? (i := 291) (by decide +kernel)
theorem nr_292 : (Cond.eq (Term.elem (Term.field (Term.string "StyleRows$Reader" 64) "java/lang/String" "value" "[B") (Term.int 0)) (Term.int 114)) ∈ flatC (Jvm.Cond.and given_1 narrow_1) := List.mem_of_getElem? (i := 292) (by decide +kernel)
theorem nr_293 : (Cond.eq (Term.elem (Term.field (Term.string "StyleRows$Reader" 64) "java/lang/String" "value" "[B") (Term.int 1)) (Term.int 97)) ∈ flatC (Jvm.Cond.and given_1 narrow_1) := List.mem_of_getElem? (i := 293) (by decide +kernel)
theorem nr_294 : (Cond.eq (Term.elem (Term.field (Term.string "StyleRows$Reader" 64) "java/lang/String" "value" "[B") (Term.int 2)) (Term.int 110)) ∈ flatC (Jvm.Cond.and given_1 narrow_1) := List.mem_of_getElem? (i := 294) (by decide +kernel)
theorem nr_295 : (Cond.eq (Term.elem (Term.field (Term.string "StyleRows$Reader" 64) "java/lang/String" "value" "[B") (Term.int 3)) (Term.int 107)) ∈ flatC (Jvm.Cond.and given_1 narrow_1) := List.mem_of_getElem? (i := 295) (by decide +kernel)
theorem nr_296 : (Cond.not (Cond.eq (Term.string "StyleRows$Reader" 38) (Term.string "StyleRows$Reader" 64))) ∈ flatC (Jvm.Cond.and given_1 narrow_1) := List.mem_of_getElem? (i := 296) (by decide +kernel)
theorem nr_297 : (Cond.not (Cond.eq (Term.string "StyleRows$Names" 15) (Term.string "StyleRows$Reader" 64))) ∈ flatC (Jvm.Cond.and given_1 narrow_1) := List.mem_of_getElem? (i := 297) (by decide +kernel)
theorem nr_298 : (Cond.not (Cond.eq (Term.string "StyleRows$Names" 17) (Term.string "StyleRows$Reader" 64))) ∈ flatC (Jvm.Cond.and given_1 narrow_1) := List.mem_of_getElem? (i := 298) (by decide +kernel)
theorem nr_299 : (Cond.not (Cond.eq (Term.string "StyleRows$Names" 19) (Term.string "StyleRows$Reader" 64))) ∈ flatC (Jvm.Cond.and given_1 narrow_1) := List.mem_of_getElem? (i := 299) (by decide +kernel)
theorem nr_300 : (Cond.not (Cond.eq (Term.string "StyleRows$Names" 21) (Term.string "StyleRows$Reader" 64))) ∈ flatC (Jvm.Cond.and given_1 narrow_1) := List.mem_of_getElem? (i := 300) (by decide +kernel)
theorem nr_301 : (Cond.not (Cond.eq (Term.string "StyleRows$Names" 23) (Term.string "StyleRows$Reader" 64))) ∈ flatC (Jvm.Cond.and given_1 narrow_1) := List.mem_of_getElem? (i := 301) (by decide +kernel)
theorem nr_302 : (Cond.not (Cond.eq (Term.string "StyleRows$Names" 25) (Term.string "StyleRows$Reader" 64))) ∈ flatC (Jvm.Cond.and given_1 narrow_1) := List.mem_of_getElem? (i := 302) (by decide +kernel)
theorem nr_303 : (Cond.not (Cond.eq (Term.string "StyleRows$Names" 27) (Term.string "StyleRows$Reader" 64))) ∈ flatC (Jvm.Cond.and given_1 narrow_1) := List.mem_of_getElem? (i := 303) (by decide +kernel)
theorem nr_304 : (Cond.not (Cond.eq (Term.string "StyleRows$Names" 29) (Term.string "StyleRows$Reader" 64))) ∈ flatC (Jvm.Cond.and given_1 narrow_1) := List.mem_of_getElem? (i := 304) (by decide +kernel)
theorem nr_305 : (Cond.not (Cond.eq (Term.string "StyleRows$Names" 31) (Term.string "StyleRows$Reader" 64))) ∈ flatC (Jvm.Cond.and given_1 narrow_1) := List.mem_of_getElem? (i := 305) (by decide +kernel)
theorem nr_306 : (Cond.not (Cond.eq (Term.string "StyleRows$Names" 33) (Term.string "StyleRows$Reader" 64))) ∈ flatC (Jvm.Cond.and given_1 narrow_1) := List.mem_of_getElem? (i := 306) (by decide +kernel)
theorem nr_307 : (Cond.not (Cond.eq (Term.string "StyleRows$Names" 35) (Term.string "StyleRows$Reader" 64))) ∈ flatC (Jvm.Cond.and given_1 narrow_1) := List.mem_of_getElem? (i := 307) (by decide +kernel)
theorem nr_308 : (Cond.not (Cond.eq (Term.string "StyleRows$Names" 37) (Term.string "StyleRows$Reader" 64))) ∈ flatC (Jvm.Cond.and given_1 narrow_1) := List.mem_of_getElem? (i := 308) (by decide +kernel)
theorem nr_309 : (Cond.not (Cond.eq (Term.string "StyleRows$Names" 39) (Term.string "StyleRows$Reader" 64))) ∈ flatC (Jvm.Cond.and given_1 narrow_1) := List.mem_of_getElem? (i := 309) (by decide +kernel)
theorem nr_310 : (Cond.not (Cond.eq (Term.string "StyleRows$Names" 41) (Term.string "StyleRows$Reader" 64))) ∈ flatC (Jvm.Cond.and given_1 narrow_1) := List.mem_of_getElem? (i := 310) (by decide +kernel)
theorem str_ex {args : Array Value} {s : State} (hs : ∀ c ∈ flatC (Jvm.Cond.and given_1 narrow_1), c.before args s = true) : ∀ i : Nat, i < 16 → (Cond.exactly (tmS i) "java/lang/String").before args s = true := by
  intro i hi
  rcases (show i = 0 ∨ i = 1 ∨ i = 2 ∨ i = 3 ∨ i = 4 ∨ i = 5 ∨ i = 6 ∨ i = 7 ∨ i = 8 ∨ i = 9 ∨ i = 10 ∨ i = 11 ∨ i = 12 ∨ i = 13 ∨ i = 14 ∨ i = 15 by omega) with rfl | rfl | rfl | rfl | rfl | rfl | rfl | rfl | rfl | rfl | rfl | rfl | rfl | rfl | rfl | rfl
  · exact hs _ nr_66
  · exact hs _ nr_76
  · exact hs _ nr_87
  · exact hs _ nr_98
  · exact hs _ nr_111
  · exact hs _ nr_126
  · exact hs _ nr_141
  · exact hs _ nr_156
  · exact hs _ nr_173
  · exact hs _ nr_191
  · exact hs _ nr_209
  · exact hs _ nr_228
  · exact hs _ nr_248
  · exact hs _ nr_270
  · exact hs _ nr_57
  · exact hs _ nr_288

theorem str_co {args : Array Value} {s : State} (hs : ∀ c ∈ flatC (Jvm.Cond.and given_1 narrow_1), c.before args s = true) : ∀ i : Nat, i < 16 → (Cond.eq (.field (tmS i) "java/lang/String" "coder" "B") (.int 0)).before args s = true := by
  intro i hi
  rcases (show i = 0 ∨ i = 1 ∨ i = 2 ∨ i = 3 ∨ i = 4 ∨ i = 5 ∨ i = 6 ∨ i = 7 ∨ i = 8 ∨ i = 9 ∨ i = 10 ∨ i = 11 ∨ i = 12 ∨ i = 13 ∨ i = 14 ∨ i = 15 by omega) with rfl | rfl | rfl | rfl | rfl | rfl | rfl | rfl | rfl | rfl | rfl | rfl | rfl | rfl | rfl | rfl
  · exact hs _ nr_67
  · exact hs _ nr_77
  · exact hs _ nr_88
  · exact hs _ nr_99
  · exact hs _ nr_112
  · exact hs _ nr_127
  · exact hs _ nr_142
  · exact hs _ nr_157
  · exact hs _ nr_174
  · exact hs _ nr_192
  · exact hs _ nr_210
  · exact hs _ nr_229
  · exact hs _ nr_249
  · exact hs _ nr_271
  · exact hs _ nr_58
  · exact hs _ nr_289

theorem str_ar {args : Array Value} {s : State} (hs : ∀ c ∈ flatC (Jvm.Cond.and given_1 narrow_1), c.before args s = true) : ∀ i : Nat, i < 16 → (Cond.arrayOf (.field (tmS i) "java/lang/String" "value" "[B") .byte).before args s = true := by
  intro i hi
  rcases (show i = 0 ∨ i = 1 ∨ i = 2 ∨ i = 3 ∨ i = 4 ∨ i = 5 ∨ i = 6 ∨ i = 7 ∨ i = 8 ∨ i = 9 ∨ i = 10 ∨ i = 11 ∨ i = 12 ∨ i = 13 ∨ i = 14 ∨ i = 15 by omega) with rfl | rfl | rfl | rfl | rfl | rfl | rfl | rfl | rfl | rfl | rfl | rfl | rfl | rfl | rfl | rfl
  · exact hs _ nr_68
  · exact hs _ nr_78
  · exact hs _ nr_89
  · exact hs _ nr_100
  · exact hs _ nr_113
  · exact hs _ nr_128
  · exact hs _ nr_143
  · exact hs _ nr_158
  · exact hs _ nr_175
  · exact hs _ nr_193
  · exact hs _ nr_211
  · exact hs _ nr_230
  · exact hs _ nr_250
  · exact hs _ nr_272
  · exact hs _ nr_59
  · exact hs _ nr_290

theorem str_le {args : Array Value} {s : State} (hs : ∀ c ∈ flatC (Jvm.Cond.and given_1 narrow_1), c.before args s = true) : ∀ i : Nat, i < 16 → (Cond.eq (.length (.field (tmS i) "java/lang/String" "value" "[B")) (.int (Int32.ofNat (lenS.getD i 0)))).before args s = true := by
  intro i hi
  rcases (show i = 0 ∨ i = 1 ∨ i = 2 ∨ i = 3 ∨ i = 4 ∨ i = 5 ∨ i = 6 ∨ i = 7 ∨ i = 8 ∨ i = 9 ∨ i = 10 ∨ i = 11 ∨ i = 12 ∨ i = 13 ∨ i = 14 ∨ i = 15 by omega) with rfl | rfl | rfl | rfl | rfl | rfl | rfl | rfl | rfl | rfl | rfl | rfl | rfl | rfl | rfl | rfl
  · exact hs _ nr_69
  · exact hs _ nr_79
  · exact hs _ nr_90
  · exact hs _ nr_101
  · exact hs _ nr_114
  · exact hs _ nr_129
  · exact hs _ nr_144
  · exact hs _ nr_159
  · exact hs _ nr_176
  · exact hs _ nr_194
  · exact hs _ nr_212
  · exact hs _ nr_231
  · exact hs _ nr_251
  · exact hs _ nr_273
  · exact hs _ nr_60
  · exact hs _ nr_291

theorem str_el {args : Array Value} {s : State} (hs : ∀ c ∈ flatC (Jvm.Cond.and given_1 narrow_1), c.before args s = true) : ∀ i : Nat, i < 16 → ∀ j : Nat, j < lenS.getD i 0 → (Cond.eq (.elem (.field (tmS i) "java/lang/String" "value" "[B") (.int (Int32.ofNat j))) (.int ((bytS.getD i []).getD j 0))).before args s = true := by
  intro i hi j hj
  rcases (show i = 0 ∨ i = 1 ∨ i = 2 ∨ i = 3 ∨ i = 4 ∨ i = 5 ∨ i = 6 ∨ i = 7 ∨ i = 8 ∨ i = 9 ∨ i = 10 ∨ i = 11 ∨ i = 12 ∨ i = 13 ∨ i = 14 ∨ i = 15 by omega) with rfl | rfl | rfl | rfl | rfl | rfl | rfl | rfl | rfl | rfl | rfl | rfl | rfl | rfl | rfl | rfl
  · rcases (show j = 0 ∨ j = 1 ∨ j = 2 ∨ j = 3 ∨ j = 4 by have : j < 5 := hj; omega) with rfl | rfl | rfl | rfl | rfl
    · exact hs _ nr_70
    · exact hs _ nr_71
    · exact hs _ nr_72
    · exact hs _ nr_73
    · exact hs _ nr_74
  · rcases (show j = 0 ∨ j = 1 ∨ j = 2 ∨ j = 3 ∨ j = 4 by have : j < 5 := hj; omega) with rfl | rfl | rfl | rfl | rfl
    · exact hs _ nr_80
    · exact hs _ nr_81
    · exact hs _ nr_82
    · exact hs _ nr_83
    · exact hs _ nr_84
  · rcases (show j = 0 ∨ j = 1 ∨ j = 2 ∨ j = 3 by have : j < 4 := hj; omega) with rfl | rfl | rfl | rfl
    · exact hs _ nr_91
    · exact hs _ nr_92
    · exact hs _ nr_93
    · exact hs _ nr_94
  · rcases (show j = 0 ∨ j = 1 ∨ j = 2 ∨ j = 3 ∨ j = 4 by have : j < 5 := hj; omega) with rfl | rfl | rfl | rfl | rfl
    · exact hs _ nr_102
    · exact hs _ nr_103
    · exact hs _ nr_104
    · exact hs _ nr_105
    · exact hs _ nr_106
  · rcases (show j = 0 ∨ j = 1 ∨ j = 2 ∨ j = 3 ∨ j = 4 ∨ j = 5 by have : j < 6 := hj; omega) with rfl | rfl | rfl | rfl | rfl | rfl
    · exact hs _ nr_115
    · exact hs _ nr_116
    · exact hs _ nr_117
    · exact hs _ nr_118
    · exact hs _ nr_119
    · exact hs _ nr_120
  · rcases (show j = 0 ∨ j = 1 ∨ j = 2 ∨ j = 3 ∨ j = 4 by have : j < 5 := hj; omega) with rfl | rfl | rfl | rfl | rfl
    · exact hs _ nr_130
    · exact hs _ nr_131
    · exact hs _ nr_132
    · exact hs _ nr_133
    · exact hs _ nr_134
  · rcases (show j = 0 ∨ j = 1 ∨ j = 2 ∨ j = 3 by have : j < 4 := hj; omega) with rfl | rfl | rfl | rfl
    · exact hs _ nr_145
    · exact hs _ nr_146
    · exact hs _ nr_147
    · exact hs _ nr_148
  · rcases (show j = 0 ∨ j = 1 ∨ j = 2 ∨ j = 3 ∨ j = 4 by have : j < 5 := hj; omega) with rfl | rfl | rfl | rfl | rfl
    · exact hs _ nr_160
    · exact hs _ nr_161
    · exact hs _ nr_162
    · exact hs _ nr_163
    · exact hs _ nr_164
  · rcases (show j = 0 ∨ j = 1 ∨ j = 2 ∨ j = 3 ∨ j = 4 by have : j < 5 := hj; omega) with rfl | rfl | rfl | rfl | rfl
    · exact hs _ nr_177
    · exact hs _ nr_178
    · exact hs _ nr_179
    · exact hs _ nr_180
    · exact hs _ nr_181
  · rcases (show j = 0 ∨ j = 1 ∨ j = 2 ∨ j = 3 by have : j < 4 := hj; omega) with rfl | rfl | rfl | rfl
    · exact hs _ nr_195
    · exact hs _ nr_196
    · exact hs _ nr_197
    · exact hs _ nr_198
  · rcases (show j = 0 ∨ j = 1 ∨ j = 2 ∨ j = 3 by have : j < 4 := hj; omega) with rfl | rfl | rfl | rfl
    · exact hs _ nr_213
    · exact hs _ nr_214
    · exact hs _ nr_215
    · exact hs _ nr_216
  · rcases (show j = 0 ∨ j = 1 ∨ j = 2 ∨ j = 3 by have : j < 4 := hj; omega) with rfl | rfl | rfl | rfl
    · exact hs _ nr_232
    · exact hs _ nr_233
    · exact hs _ nr_234
    · exact hs _ nr_235
  · rcases (show j = 0 ∨ j = 1 ∨ j = 2 ∨ j = 3 ∨ j = 4 by have : j < 5 := hj; omega) with rfl | rfl | rfl | rfl | rfl
    · exact hs _ nr_252
    · exact hs _ nr_253
    · exact hs _ nr_254
    · exact hs _ nr_255
    · exact hs _ nr_256
  · exact absurd hj (by show ¬ j < 0; omega)
  · rcases (show j = 0 ∨ j = 1 ∨ j = 2 ∨ j = 3 ∨ j = 4 by have : j < 5 := hj; omega) with rfl | rfl | rfl | rfl | rfl
    · exact hs _ nr_61
    · exact hs _ nr_62
    · exact hs _ nr_63
    · exact hs _ nr_64
    · exact hs _ nr_65
  · rcases (show j = 0 ∨ j = 1 ∨ j = 2 ∨ j = 3 by have : j < 4 := hj; omega) with rfl | rfl | rfl | rfl
    · exact hs _ nr_292
    · exact hs _ nr_293
    · exact hs _ nr_294
    · exact hs _ nr_295

set_option maxHeartbeats 4000000 in
theorem str_ne {args : Array Value} {s : State} (hs : ∀ c ∈ flatC (Jvm.Cond.and given_1 narrow_1), c.before args s = true) : ∀ i j : Nat, i < 16 → j < 16 → i ≠ j → (Cond.not (Cond.eq (tmS i) (tmS j))).before args s = true ∨ (Cond.not (Cond.eq (tmS j) (tmS i))).before args s = true := by
  intro i j hi hj hij
  rcases (show i = 0 ∨ i = 1 ∨ i = 2 ∨ i = 3 ∨ i = 4 ∨ i = 5 ∨ i = 6 ∨ i = 7 ∨ i = 8 ∨ i = 9 ∨ i = 10 ∨ i = 11 ∨ i = 12 ∨ i = 13 ∨ i = 14 ∨ i = 15 by omega) with rfl | rfl | rfl | rfl | rfl | rfl | rfl | rfl | rfl | rfl | rfl | rfl | rfl | rfl | rfl | rfl
  · rcases (show j = 1 ∨ j = 2 ∨ j = 3 ∨ j = 4 ∨ j = 5 ∨ j = 6 ∨ j = 7 ∨ j = 8 ∨ j = 9 ∨ j = 10 ∨ j = 11 ∨ j = 12 ∨ j = 13 ∨ j = 14 ∨ j = 15 by omega) with rfl | rfl | rfl | rfl | rfl | rfl | rfl | rfl | rfl | rfl | rfl | rfl | rfl | rfl | rfl
    · exact Or.inl (hs _ nr_86)
    · exact Or.inl (hs _ nr_96)
    · exact Or.inl (hs _ nr_108)
    · exact Or.inl (hs _ nr_122)
    · exact Or.inl (hs _ nr_136)
    · exact Or.inl (hs _ nr_150)
    · exact Or.inl (hs _ nr_166)
    · exact Or.inl (hs _ nr_183)
    · exact Or.inl (hs _ nr_200)
    · exact Or.inl (hs _ nr_218)
    · exact Or.inl (hs _ nr_237)
    · exact Or.inl (hs _ nr_258)
    · exact Or.inl (hs _ nr_275)
    · exact Or.inr (hs _ nr_75)
    · exact Or.inl (hs _ nr_297)
  · rcases (show j = 0 ∨ j = 2 ∨ j = 3 ∨ j = 4 ∨ j = 5 ∨ j = 6 ∨ j = 7 ∨ j = 8 ∨ j = 9 ∨ j = 10 ∨ j = 11 ∨ j = 12 ∨ j = 13 ∨ j = 14 ∨ j = 15 by omega) with rfl | rfl | rfl | rfl | rfl | rfl | rfl | rfl | rfl | rfl | rfl | rfl | rfl | rfl | rfl
    · exact Or.inr (hs _ nr_86)
    · exact Or.inl (hs _ nr_97)
    · exact Or.inl (hs _ nr_109)
    · exact Or.inl (hs _ nr_123)
    · exact Or.inl (hs _ nr_137)
    · exact Or.inl (hs _ nr_151)
    · exact Or.inl (hs _ nr_167)
    · exact Or.inl (hs _ nr_184)
    · exact Or.inl (hs _ nr_201)
    · exact Or.inl (hs _ nr_219)
    · exact Or.inl (hs _ nr_238)
    · exact Or.inl (hs _ nr_259)
    · exact Or.inl (hs _ nr_276)
    · exact Or.inr (hs _ nr_85)
    · exact Or.inl (hs _ nr_298)
  · rcases (show j = 0 ∨ j = 1 ∨ j = 3 ∨ j = 4 ∨ j = 5 ∨ j = 6 ∨ j = 7 ∨ j = 8 ∨ j = 9 ∨ j = 10 ∨ j = 11 ∨ j = 12 ∨ j = 13 ∨ j = 14 ∨ j = 15 by omega) with rfl | rfl | rfl | rfl | rfl | rfl | rfl | rfl | rfl | rfl | rfl | rfl | rfl | rfl | rfl
    · exact Or.inr (hs _ nr_96)
    · exact Or.inr (hs _ nr_97)
    · exact Or.inl (hs _ nr_110)
    · exact Or.inl (hs _ nr_124)
    · exact Or.inl (hs _ nr_138)
    · exact Or.inl (hs _ nr_152)
    · exact Or.inl (hs _ nr_168)
    · exact Or.inl (hs _ nr_185)
    · exact Or.inl (hs _ nr_202)
    · exact Or.inl (hs _ nr_220)
    · exact Or.inl (hs _ nr_239)
    · exact Or.inl (hs _ nr_260)
    · exact Or.inl (hs _ nr_277)
    · exact Or.inr (hs _ nr_95)
    · exact Or.inl (hs _ nr_299)
  · rcases (show j = 0 ∨ j = 1 ∨ j = 2 ∨ j = 4 ∨ j = 5 ∨ j = 6 ∨ j = 7 ∨ j = 8 ∨ j = 9 ∨ j = 10 ∨ j = 11 ∨ j = 12 ∨ j = 13 ∨ j = 14 ∨ j = 15 by omega) with rfl | rfl | rfl | rfl | rfl | rfl | rfl | rfl | rfl | rfl | rfl | rfl | rfl | rfl | rfl
    · exact Or.inr (hs _ nr_108)
    · exact Or.inr (hs _ nr_109)
    · exact Or.inr (hs _ nr_110)
    · exact Or.inl (hs _ nr_125)
    · exact Or.inl (hs _ nr_139)
    · exact Or.inl (hs _ nr_153)
    · exact Or.inl (hs _ nr_169)
    · exact Or.inl (hs _ nr_186)
    · exact Or.inl (hs _ nr_203)
    · exact Or.inl (hs _ nr_221)
    · exact Or.inl (hs _ nr_240)
    · exact Or.inl (hs _ nr_261)
    · exact Or.inl (hs _ nr_278)
    · exact Or.inr (hs _ nr_107)
    · exact Or.inl (hs _ nr_300)
  · rcases (show j = 0 ∨ j = 1 ∨ j = 2 ∨ j = 3 ∨ j = 5 ∨ j = 6 ∨ j = 7 ∨ j = 8 ∨ j = 9 ∨ j = 10 ∨ j = 11 ∨ j = 12 ∨ j = 13 ∨ j = 14 ∨ j = 15 by omega) with rfl | rfl | rfl | rfl | rfl | rfl | rfl | rfl | rfl | rfl | rfl | rfl | rfl | rfl | rfl
    · exact Or.inr (hs _ nr_122)
    · exact Or.inr (hs _ nr_123)
    · exact Or.inr (hs _ nr_124)
    · exact Or.inr (hs _ nr_125)
    · exact Or.inl (hs _ nr_140)
    · exact Or.inl (hs _ nr_154)
    · exact Or.inl (hs _ nr_170)
    · exact Or.inl (hs _ nr_187)
    · exact Or.inl (hs _ nr_204)
    · exact Or.inl (hs _ nr_222)
    · exact Or.inl (hs _ nr_241)
    · exact Or.inl (hs _ nr_262)
    · exact Or.inl (hs _ nr_279)
    · exact Or.inr (hs _ nr_121)
    · exact Or.inl (hs _ nr_301)
  · rcases (show j = 0 ∨ j = 1 ∨ j = 2 ∨ j = 3 ∨ j = 4 ∨ j = 6 ∨ j = 7 ∨ j = 8 ∨ j = 9 ∨ j = 10 ∨ j = 11 ∨ j = 12 ∨ j = 13 ∨ j = 14 ∨ j = 15 by omega) with rfl | rfl | rfl | rfl | rfl | rfl | rfl | rfl | rfl | rfl | rfl | rfl | rfl | rfl | rfl
    · exact Or.inr (hs _ nr_136)
    · exact Or.inr (hs _ nr_137)
    · exact Or.inr (hs _ nr_138)
    · exact Or.inr (hs _ nr_139)
    · exact Or.inr (hs _ nr_140)
    · exact Or.inl (hs _ nr_155)
    · exact Or.inl (hs _ nr_171)
    · exact Or.inl (hs _ nr_188)
    · exact Or.inl (hs _ nr_205)
    · exact Or.inl (hs _ nr_223)
    · exact Or.inl (hs _ nr_242)
    · exact Or.inl (hs _ nr_263)
    · exact Or.inl (hs _ nr_280)
    · exact Or.inr (hs _ nr_135)
    · exact Or.inl (hs _ nr_302)
  · rcases (show j = 0 ∨ j = 1 ∨ j = 2 ∨ j = 3 ∨ j = 4 ∨ j = 5 ∨ j = 7 ∨ j = 8 ∨ j = 9 ∨ j = 10 ∨ j = 11 ∨ j = 12 ∨ j = 13 ∨ j = 14 ∨ j = 15 by omega) with rfl | rfl | rfl | rfl | rfl | rfl | rfl | rfl | rfl | rfl | rfl | rfl | rfl | rfl | rfl
    · exact Or.inr (hs _ nr_150)
    · exact Or.inr (hs _ nr_151)
    · exact Or.inr (hs _ nr_152)
    · exact Or.inr (hs _ nr_153)
    · exact Or.inr (hs _ nr_154)
    · exact Or.inr (hs _ nr_155)
    · exact Or.inl (hs _ nr_172)
    · exact Or.inl (hs _ nr_189)
    · exact Or.inl (hs _ nr_206)
    · exact Or.inl (hs _ nr_224)
    · exact Or.inl (hs _ nr_243)
    · exact Or.inl (hs _ nr_264)
    · exact Or.inl (hs _ nr_281)
    · exact Or.inr (hs _ nr_149)
    · exact Or.inl (hs _ nr_303)
  · rcases (show j = 0 ∨ j = 1 ∨ j = 2 ∨ j = 3 ∨ j = 4 ∨ j = 5 ∨ j = 6 ∨ j = 8 ∨ j = 9 ∨ j = 10 ∨ j = 11 ∨ j = 12 ∨ j = 13 ∨ j = 14 ∨ j = 15 by omega) with rfl | rfl | rfl | rfl | rfl | rfl | rfl | rfl | rfl | rfl | rfl | rfl | rfl | rfl | rfl
    · exact Or.inr (hs _ nr_166)
    · exact Or.inr (hs _ nr_167)
    · exact Or.inr (hs _ nr_168)
    · exact Or.inr (hs _ nr_169)
    · exact Or.inr (hs _ nr_170)
    · exact Or.inr (hs _ nr_171)
    · exact Or.inr (hs _ nr_172)
    · exact Or.inl (hs _ nr_190)
    · exact Or.inl (hs _ nr_207)
    · exact Or.inl (hs _ nr_225)
    · exact Or.inl (hs _ nr_244)
    · exact Or.inl (hs _ nr_265)
    · exact Or.inl (hs _ nr_282)
    · exact Or.inr (hs _ nr_165)
    · exact Or.inl (hs _ nr_304)
  · rcases (show j = 0 ∨ j = 1 ∨ j = 2 ∨ j = 3 ∨ j = 4 ∨ j = 5 ∨ j = 6 ∨ j = 7 ∨ j = 9 ∨ j = 10 ∨ j = 11 ∨ j = 12 ∨ j = 13 ∨ j = 14 ∨ j = 15 by omega) with rfl | rfl | rfl | rfl | rfl | rfl | rfl | rfl | rfl | rfl | rfl | rfl | rfl | rfl | rfl
    · exact Or.inr (hs _ nr_183)
    · exact Or.inr (hs _ nr_184)
    · exact Or.inr (hs _ nr_185)
    · exact Or.inr (hs _ nr_186)
    · exact Or.inr (hs _ nr_187)
    · exact Or.inr (hs _ nr_188)
    · exact Or.inr (hs _ nr_189)
    · exact Or.inr (hs _ nr_190)
    · exact Or.inl (hs _ nr_208)
    · exact Or.inl (hs _ nr_226)
    · exact Or.inl (hs _ nr_245)
    · exact Or.inl (hs _ nr_266)
    · exact Or.inl (hs _ nr_283)
    · exact Or.inr (hs _ nr_182)
    · exact Or.inl (hs _ nr_305)
  · rcases (show j = 0 ∨ j = 1 ∨ j = 2 ∨ j = 3 ∨ j = 4 ∨ j = 5 ∨ j = 6 ∨ j = 7 ∨ j = 8 ∨ j = 10 ∨ j = 11 ∨ j = 12 ∨ j = 13 ∨ j = 14 ∨ j = 15 by omega) with rfl | rfl | rfl | rfl | rfl | rfl | rfl | rfl | rfl | rfl | rfl | rfl | rfl | rfl | rfl
    · exact Or.inr (hs _ nr_200)
    · exact Or.inr (hs _ nr_201)
    · exact Or.inr (hs _ nr_202)
    · exact Or.inr (hs _ nr_203)
    · exact Or.inr (hs _ nr_204)
    · exact Or.inr (hs _ nr_205)
    · exact Or.inr (hs _ nr_206)
    · exact Or.inr (hs _ nr_207)
    · exact Or.inr (hs _ nr_208)
    · exact Or.inl (hs _ nr_227)
    · exact Or.inl (hs _ nr_246)
    · exact Or.inl (hs _ nr_267)
    · exact Or.inl (hs _ nr_284)
    · exact Or.inr (hs _ nr_199)
    · exact Or.inl (hs _ nr_306)
  · rcases (show j = 0 ∨ j = 1 ∨ j = 2 ∨ j = 3 ∨ j = 4 ∨ j = 5 ∨ j = 6 ∨ j = 7 ∨ j = 8 ∨ j = 9 ∨ j = 11 ∨ j = 12 ∨ j = 13 ∨ j = 14 ∨ j = 15 by omega) with rfl | rfl | rfl | rfl | rfl | rfl | rfl | rfl | rfl | rfl | rfl | rfl | rfl | rfl | rfl
    · exact Or.inr (hs _ nr_218)
    · exact Or.inr (hs _ nr_219)
    · exact Or.inr (hs _ nr_220)
    · exact Or.inr (hs _ nr_221)
    · exact Or.inr (hs _ nr_222)
    · exact Or.inr (hs _ nr_223)
    · exact Or.inr (hs _ nr_224)
    · exact Or.inr (hs _ nr_225)
    · exact Or.inr (hs _ nr_226)
    · exact Or.inr (hs _ nr_227)
    · exact Or.inl (hs _ nr_247)
    · exact Or.inl (hs _ nr_268)
    · exact Or.inl (hs _ nr_285)
    · exact Or.inr (hs _ nr_217)
    · exact Or.inl (hs _ nr_307)
  · rcases (show j = 0 ∨ j = 1 ∨ j = 2 ∨ j = 3 ∨ j = 4 ∨ j = 5 ∨ j = 6 ∨ j = 7 ∨ j = 8 ∨ j = 9 ∨ j = 10 ∨ j = 12 ∨ j = 13 ∨ j = 14 ∨ j = 15 by omega) with rfl | rfl | rfl | rfl | rfl | rfl | rfl | rfl | rfl | rfl | rfl | rfl | rfl | rfl | rfl
    · exact Or.inr (hs _ nr_237)
    · exact Or.inr (hs _ nr_238)
    · exact Or.inr (hs _ nr_239)
    · exact Or.inr (hs _ nr_240)
    · exact Or.inr (hs _ nr_241)
    · exact Or.inr (hs _ nr_242)
    · exact Or.inr (hs _ nr_243)
    · exact Or.inr (hs _ nr_244)
    · exact Or.inr (hs _ nr_245)
    · exact Or.inr (hs _ nr_246)
    · exact Or.inr (hs _ nr_247)
    · exact Or.inl (hs _ nr_269)
    · exact Or.inl (hs _ nr_286)
    · exact Or.inr (hs _ nr_236)
    · exact Or.inl (hs _ nr_308)
  · rcases (show j = 0 ∨ j = 1 ∨ j = 2 ∨ j = 3 ∨ j = 4 ∨ j = 5 ∨ j = 6 ∨ j = 7 ∨ j = 8 ∨ j = 9 ∨ j = 10 ∨ j = 11 ∨ j = 13 ∨ j = 14 ∨ j = 15 by omega) with rfl | rfl | rfl | rfl | rfl | rfl | rfl | rfl | rfl | rfl | rfl | rfl | rfl | rfl | rfl
    · exact Or.inr (hs _ nr_258)
    · exact Or.inr (hs _ nr_259)
    · exact Or.inr (hs _ nr_260)
    · exact Or.inr (hs _ nr_261)
    · exact Or.inr (hs _ nr_262)
    · exact Or.inr (hs _ nr_263)
    · exact Or.inr (hs _ nr_264)
    · exact Or.inr (hs _ nr_265)
    · exact Or.inr (hs _ nr_266)
    · exact Or.inr (hs _ nr_267)
    · exact Or.inr (hs _ nr_268)
    · exact Or.inr (hs _ nr_269)
    · exact Or.inl (hs _ nr_287)
    · exact Or.inr (hs _ nr_257)
    · exact Or.inl (hs _ nr_309)
  · rcases (show j = 0 ∨ j = 1 ∨ j = 2 ∨ j = 3 ∨ j = 4 ∨ j = 5 ∨ j = 6 ∨ j = 7 ∨ j = 8 ∨ j = 9 ∨ j = 10 ∨ j = 11 ∨ j = 12 ∨ j = 14 ∨ j = 15 by omega) with rfl | rfl | rfl | rfl | rfl | rfl | rfl | rfl | rfl | rfl | rfl | rfl | rfl | rfl | rfl
    · exact Or.inr (hs _ nr_275)
    · exact Or.inr (hs _ nr_276)
    · exact Or.inr (hs _ nr_277)
    · exact Or.inr (hs _ nr_278)
    · exact Or.inr (hs _ nr_279)
    · exact Or.inr (hs _ nr_280)
    · exact Or.inr (hs _ nr_281)
    · exact Or.inr (hs _ nr_282)
    · exact Or.inr (hs _ nr_283)
    · exact Or.inr (hs _ nr_284)
    · exact Or.inr (hs _ nr_285)
    · exact Or.inr (hs _ nr_286)
    · exact Or.inr (hs _ nr_287)
    · exact Or.inr (hs _ nr_274)
    · exact Or.inl (hs _ nr_310)
  · rcases (show j = 0 ∨ j = 1 ∨ j = 2 ∨ j = 3 ∨ j = 4 ∨ j = 5 ∨ j = 6 ∨ j = 7 ∨ j = 8 ∨ j = 9 ∨ j = 10 ∨ j = 11 ∨ j = 12 ∨ j = 13 ∨ j = 15 by omega) with rfl | rfl | rfl | rfl | rfl | rfl | rfl | rfl | rfl | rfl | rfl | rfl | rfl | rfl | rfl
    · exact Or.inl (hs _ nr_75)
    · exact Or.inl (hs _ nr_85)
    · exact Or.inl (hs _ nr_95)
    · exact Or.inl (hs _ nr_107)
    · exact Or.inl (hs _ nr_121)
    · exact Or.inl (hs _ nr_135)
    · exact Or.inl (hs _ nr_149)
    · exact Or.inl (hs _ nr_165)
    · exact Or.inl (hs _ nr_182)
    · exact Or.inl (hs _ nr_199)
    · exact Or.inl (hs _ nr_217)
    · exact Or.inl (hs _ nr_236)
    · exact Or.inl (hs _ nr_257)
    · exact Or.inl (hs _ nr_274)
    · exact Or.inl (hs _ nr_296)
  · rcases (show j = 0 ∨ j = 1 ∨ j = 2 ∨ j = 3 ∨ j = 4 ∨ j = 5 ∨ j = 6 ∨ j = 7 ∨ j = 8 ∨ j = 9 ∨ j = 10 ∨ j = 11 ∨ j = 12 ∨ j = 13 ∨ j = 14 by omega) with rfl | rfl | rfl | rfl | rfl | rfl | rfl | rfl | rfl | rfl | rfl | rfl | rfl | rfl | rfl
    · exact Or.inr (hs _ nr_297)
    · exact Or.inr (hs _ nr_298)
    · exact Or.inr (hs _ nr_299)
    · exact Or.inr (hs _ nr_300)
    · exact Or.inr (hs _ nr_301)
    · exact Or.inr (hs _ nr_302)
    · exact Or.inr (hs _ nr_303)
    · exact Or.inr (hs _ nr_304)
    · exact Or.inr (hs _ nr_305)
    · exact Or.inr (hs _ nr_306)
    · exact Or.inr (hs _ nr_307)
    · exact Or.inr (hs _ nr_308)
    · exact Or.inr (hs _ nr_309)
    · exact Or.inr (hs _ nr_310)
    · exact Or.inr (hs _ nr_296)

theorem tab_at {args : Array Value} {s : State} (hts : ∀ w ∈ lw_tbl, w.before args s = true) (hs : ∀ c ∈ flatC (Jvm.Cond.and given_1 narrow_1), c.before args s = true) {A : Nat → Prop} (hA : ∀ a : Nat, a < s.heap.size → ¬ A a) : ∀ j, j < 3 → ∃ t : Nat, va_Z RX3 (tblN j) "[I" (.ref t) A s s.heap ∧ va_T .int t 13 (fun i => .int (tb j i)) A s s.heap := by
  intro i hi
  rcases (show i = 0 ∨ i = 1 ∨ i = 2 by omega) with rfl | rfl | rfl
  · obtain ⟨t, ht, hT⟩ := va_Tof (tm := Term.static "StyleRows$Names" "WITHOUT" "[I") (N := 13) (f := fun i => .int (tb 0 i)) (A := A) (by decide) (hs _ nr_42) (va_eqt (hs _ nr_43)) (by
      intro i hi
      rcases (show i = 0 ∨ i = 1 ∨ i = 2 ∨ i = 3 ∨ i = 4 ∨ i = 5 ∨ i = 6 ∨ i = 7 ∨ i = 8 ∨ i = 9 ∨ i = 10 ∨ i = 11 ∨ i = 12 by omega) with rfl | rfl | rfl | rfl | rfl | rfl | rfl | rfl | rfl | rfl | rfl | rfl | rfl
      · exact va_eqt (hs _ nr_44)
      · exact va_eqt (hs _ nr_45)
      · exact va_eqt (hs _ nr_46)
      · exact va_eqt (hs _ nr_47)
      · exact va_eqt (hs _ nr_48)
      · exact va_eqt (hs _ nr_49)
      · exact va_eqt (hs _ nr_50)
      · exact va_eqt (hs _ nr_51)
      · exact va_eqt (hs _ nr_52)
      · exact va_eqt (hs _ nr_53)
      · exact va_eqt (hs _ nr_54)
      · exact va_eqt (hs _ nr_55)
      · exact va_eqt (hs _ nr_56)) hA
    exact ⟨t, va_Zof (hts _ (List.mem_append_right _ (List.mem_of_getElem? (i := 555) (by decide +kernel)))) (hts _ (List.mem_append_right _ (List.mem_of_getElem? (i := 18) (by decide +kernel)))) ht hA, hT⟩
  · obtain ⟨t, ht, hT⟩ := va_Tof (tm := Term.static "StyleRows$Names" "FROM" "[I") (N := 13) (f := fun i => .int (tb 1 i)) (A := A) (by decide) (hs _ nr_10) (va_eqt (hs _ nr_11)) (by
      intro i hi
      rcases (show i = 0 ∨ i = 1 ∨ i = 2 ∨ i = 3 ∨ i = 4 ∨ i = 5 ∨ i = 6 ∨ i = 7 ∨ i = 8 ∨ i = 9 ∨ i = 10 ∨ i = 11 ∨ i = 12 by omega) with rfl | rfl | rfl | rfl | rfl | rfl | rfl | rfl | rfl | rfl | rfl | rfl | rfl
      · exact va_eqt (hs _ nr_12)
      · exact va_eqt (hs _ nr_13)
      · exact va_eqt (hs _ nr_14)
      · exact va_eqt (hs _ nr_15)
      · exact va_eqt (hs _ nr_16)
      · exact va_eqt (hs _ nr_17)
      · exact va_eqt (hs _ nr_18)
      · exact va_eqt (hs _ nr_19)
      · exact va_eqt (hs _ nr_20)
      · exact va_eqt (hs _ nr_21)
      · exact va_eqt (hs _ nr_22)
      · exact va_eqt (hs _ nr_23)
      · exact va_eqt (hs _ nr_24)) hA
    exact ⟨t, va_Zof (hts _ (List.mem_append_right _ (List.mem_of_getElem? (i := 499) (by decide +kernel)))) (hts _ (List.mem_append_right _ (List.mem_of_getElem? (i := 18) (by decide +kernel)))) ht hA, hT⟩
  · obtain ⟨t, ht, hT⟩ := va_Tof (tm := Term.static "StyleRows$Names" "TO" "[I") (N := 13) (f := fun i => .int (tb 2 i)) (A := A) (by decide) (hs _ nr_26) (va_eqt (hs _ nr_27)) (by
      intro i hi
      rcases (show i = 0 ∨ i = 1 ∨ i = 2 ∨ i = 3 ∨ i = 4 ∨ i = 5 ∨ i = 6 ∨ i = 7 ∨ i = 8 ∨ i = 9 ∨ i = 10 ∨ i = 11 ∨ i = 12 by omega) with rfl | rfl | rfl | rfl | rfl | rfl | rfl | rfl | rfl | rfl | rfl | rfl | rfl
      · exact va_eqt (hs _ nr_28)
      · exact va_eqt (hs _ nr_29)
      · exact va_eqt (hs _ nr_30)
      · exact va_eqt (hs _ nr_31)
      · exact va_eqt (hs _ nr_32)
      · exact va_eqt (hs _ nr_33)
      · exact va_eqt (hs _ nr_34)
      · exact va_eqt (hs _ nr_35)
      · exact va_eqt (hs _ nr_36)
      · exact va_eqt (hs _ nr_37)
      · exact va_eqt (hs _ nr_38)
      · exact va_eqt (hs _ nr_39)
      · exact va_eqt (hs _ nr_40)) hA
    exact ⟨t, va_Zof (hts _ (List.mem_append_right _ (List.mem_of_getElem? (i := 501) (by decide +kernel)))) (hts _ (List.mem_append_right _ (List.mem_of_getElem? (i := 18) (by decide +kernel)))) ht hA, hT⟩

theorem nr_4 : (Cond.eq (Term.static "java/lang/String" "COMPACT_STRINGS" "Z") (Term.int 1)) ∈ flatC (Jvm.Cond.and given_1 narrow_1) := List.mem_of_getElem? (i := 4) (by decide +kernel)
theorem nr_5 : (Cond.isRef (Term.static "jdk/internal/util/Preconditions" "SIOOBE_FORMATTER" "Ljava/util/function/BiFunction;")) ∈ flatC (Jvm.Cond.and given_1 narrow_1) := List.mem_of_getElem? (i := 5) (by decide +kernel)
set_option maxRecDepth 20000 in
theorem env_start {args : Array Value} {s : State} (hts : ∀ w ∈ lw_tbl, w.before args s = true) (hgv : (Jvm.Cond.and given_1 narrow_1).before args s = true) {A : Nat → Prop} (hA : ∀ a : Nat, a < s.heap.size → ¬ A a) : ∃ K V T : Nat → Nat, ∀ b : Bw, bK b = K → bV b = V → bT b = T → EnvP b A s s.heap := by
  have hs := flat_of_before _ hgv
  obtain ⟨K, V, hkv, hk⟩ := vk_Sof (N := 16) (tm := tmS) (len := lenS) (byt := bytS) (A := A) lenS_small (str_ex hs) (str_co hs) (str_ar hs) (str_le hs) (str_el hs) (str_ne hs) hA
  obtain ⟨T, hT⟩ := Classical.axiomOfChoice (fun j : Nat => show ∃ t : Nat, j < 3 → va_Z RX3 (tblN j) "[I" (.ref t) A s s.heap ∧ va_T .int t 13 (fun i => .int (tb j i)) A s s.heap by
    by_cases hj : j < 3
    · obtain ⟨t, ht⟩ := tab_at hts hs hA j hj
      exact ⟨t, fun _ => ht⟩
    · exact ⟨0, fun h => absurd h hj⟩)
  refine ⟨K, V, T, fun b e1 e2 e3 => ⟨fun w hw => va_Nw.of (nest_tab (nest_all w hw)) (hts w (nestWs_in w hw)), by rw [e1, e2]; exact hkv, ?_, va_Zof (hts _ (List.mem_append_right _ (List.mem_of_getElem? (i := 432) (by decide +kernel)))) (hts _ (List.mem_append_right _ (List.mem_of_getElem? (i := 14) (by decide +kernel)))) (va_eqi (hs _ nr_4)) hA, va_Zqof (hts _ (List.mem_append_right _ (List.mem_of_getElem? (i := 448) (by decide +kernel)))) (hts _ (List.mem_append_right _ (List.mem_of_getElem? (i := 16) (by decide +kernel)))) (hs _ nr_5) hA, fun j hj => by rw [e3]; exact hT j hj⟩⟩
  rw [e1]
  unfold strRefs
  exact List.forall_mem_cons.mpr ⟨vk_R.of (hts _ (List.mem_append_right _ (List.mem_of_getElem? (i := 484) (by decide +kernel)))) (hk 0 (by decide)), List.forall_mem_cons.mpr ⟨vk_R.of (hts _ (List.mem_append_right _ (List.mem_of_getElem? (i := 485) (by decide +kernel)))) (hk 1 (by decide)), List.forall_mem_cons.mpr ⟨vk_R.of (hts _ (List.mem_append_right _ (List.mem_of_getElem? (i := 486) (by decide +kernel)))) (hk 2 (by decide)), List.forall_mem_cons.mpr ⟨vk_R.of (hts _ (List.mem_append_right _ (List.mem_of_getElem? (i := 487) (by decide +kernel)))) (hk 3 (by decide)), List.forall_mem_cons.mpr ⟨vk_R.of (hts _ (List.mem_append_right _ (List.mem_of_getElem? (i := 488) (by decide +kernel)))) (hk 4 (by decide)), List.forall_mem_cons.mpr ⟨vk_R.of (hts _ (List.mem_append_right _ (List.mem_of_getElem? (i := 489) (by decide +kernel)))) (hk 5 (by decide)), List.forall_mem_cons.mpr ⟨vk_R.of (hts _ (List.mem_append_right _ (List.mem_of_getElem? (i := 490) (by decide +kernel)))) (hk 6 (by decide)), List.forall_mem_cons.mpr ⟨vk_R.of (hts _ (List.mem_append_right _ (List.mem_of_getElem? (i := 491) (by decide +kernel)))) (hk 7 (by decide)), List.forall_mem_cons.mpr ⟨vk_R.of (hts _ (List.mem_append_right _ (List.mem_of_getElem? (i := 492) (by decide +kernel)))) (hk 8 (by decide)), List.forall_mem_cons.mpr ⟨vk_R.of (hts _ (List.mem_append_right _ (List.mem_of_getElem? (i := 493) (by decide +kernel)))) (hk 9 (by decide)), List.forall_mem_cons.mpr ⟨vk_R.of (hts _ (List.mem_append_right _ (List.mem_of_getElem? (i := 494) (by decide +kernel)))) (hk 10 (by decide)), List.forall_mem_cons.mpr ⟨vk_R.of (hts _ (List.mem_append_right _ (List.mem_of_getElem? (i := 495) (by decide +kernel)))) (hk 11 (by decide)), List.forall_mem_cons.mpr ⟨vk_R.of (hts _ (List.mem_append_right _ (List.mem_of_getElem? (i := 496) (by decide +kernel)))) (hk 12 (by decide)), List.forall_mem_cons.mpr ⟨vk_R.of (hts _ (List.mem_append_right _ (List.mem_of_getElem? (i := 497) (by decide +kernel)))) (hk 13 (by decide)), List.forall_mem_cons.mpr ⟨vk_R.of (hts _ (List.mem_append_right _ (List.mem_of_getElem? (i := 418) (by decide +kernel)))) (hk 14 (by decide)), List.forall_mem_cons.mpr ⟨vk_R.of (hts _ (List.mem_append_right _ (List.mem_of_getElem? (i := 502) (by decide +kernel)))) (hk 15 (by decide)), fun _ h => absurd h List.not_mem_nil⟩⟩⟩⟩⟩⟩⟩⟩⟩⟩⟩⟩⟩⟩⟩⟩

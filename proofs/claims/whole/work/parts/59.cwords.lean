theorem cl_L_7 : Cond.classLink RL 7 RX7 ∈ lwg := lwg_in (List.mem_append_right _ (List.mem_of_getElem? (i := 13) (by decide +kernel))) rfl
theorem in_X7 : Cond.instantiable RX7 10 ∈ lwg := lwg_in (List.mem_append_right _ (List.mem_of_getElem? (i := 14) (by decide +kernel))) rfl
theorem im_X7 : Cond.instanceMethod yX7_init ∈ lwg := lwg_in (List.mem_append_right _ (List.mem_of_getElem? (i := 16) (by decide +kernel))) rfl
theorem oi_X7 : Cond.methodLink RX7 1 objectInit ∈ lwg := lwg_in (List.mem_append_right _ (List.mem_of_getElem? (i := 18) (by decide +kernel))) rfl
theorem oi_im : Cond.instanceMethod objectInit ∈ lwg := lwg_in (List.mem_append_right _ (List.mem_of_getElem? (i := 19) (by decide +kernel))) rfl
theorem oi_code : Cond.code objectInit ⟨#[0xb1]⟩ 1 none ∈ lwg := lwg_in (List.mem_append_right _ (List.mem_of_getElem? (i := 20) rfl)) rfl
theorem cl_X7_9 : Cond.classLink RX7 9 RX5 ∈ lwg := lwg_in (List.mem_append_right _ (List.mem_of_getElem? (i := 21) (by decide +kernel))) rfl
theorem ao_X5 : Cond.arrayOver (.object RX5) ∈ lw_tbl := List.mem_append_right _ (List.mem_of_getElem? (i := 22) (by decide +kernel))
theorem cl_X7_15 : Cond.classLink RX7 15 RX6 ∈ lwg := lwg_in (List.mem_append_right _ (List.mem_of_getElem? (i := 23) (by decide +kernel))) rfl
theorem in_X6 : Cond.instantiable RX6 4 ∈ lwg := lwg_in (List.mem_append_right _ (List.mem_of_getElem? (i := 24) (by decide +kernel))) rfl
theorem im_X6 : Cond.instanceMethod yX6_init ∈ lwg := lwg_in (List.mem_append_right _ (List.mem_of_getElem? (i := 26) (by decide +kernel))) rfl
theorem oi_X6 : Cond.methodLink RX6 3 objectInit ∈ lwg := lwg_in (List.mem_append_right _ (List.mem_of_getElem? (i := 28) (by decide +kernel))) rfl
theorem ac_int : Cond.arrayClass .int ∈ lwg := lwg_in (List.mem_append_right _ (List.mem_of_getElem? (i := 45) (by decide +kernel))) rfl
theorem cl_X7_22 : Cond.classLink RX7 22 RX2 ∈ lwg := lwg_in (List.mem_append_right _ (List.mem_of_getElem? (i := 46) (by decide +kernel))) rfl
theorem in_X2 : Cond.instantiable RX2 10 ∈ lwg := lwg_in (List.mem_append_right _ (List.mem_of_getElem? (i := 47) (by decide +kernel))) rfl
theorem im_X2 : Cond.instanceMethod yX2_init ∈ lwg := lwg_in (List.mem_append_right _ (List.mem_of_getElem? (i := 49) (by decide +kernel))) rfl
theorem oi_X2 : Cond.methodLink RX2 3 objectInit ∈ lwg := lwg_in (List.mem_append_right _ (List.mem_of_getElem? (i := 51) (by decide +kernel))) rfl
theorem cl_X2_9 : Cond.classLink RX2 9 RX4 ∈ lwg := lwg_in (List.mem_append_right _ (List.mem_of_getElem? (i := 52) (by decide +kernel))) rfl
theorem in_X4 : Cond.instantiable RX4 7 ∈ lwg := lwg_in (List.mem_append_right _ (List.mem_of_getElem? (i := 53) (by decide +kernel))) rfl
theorem im_X4 : Cond.instanceMethod yX4_init ∈ lwg := lwg_in (List.mem_append_right _ (List.mem_of_getElem? (i := 55) (by decide +kernel))) rfl
theorem oi_X4 : Cond.methodLink RX4 3 objectInit ∈ lwg := lwg_in (List.mem_append_right _ (List.mem_of_getElem? (i := 57) (by decide +kernel))) rfl
theorem cl_X4_31 : Cond.classLink RX4 31 RX3 ∈ lwg := lwg_in (List.mem_append_right _ (List.mem_of_getElem? (i := 58) (by decide +kernel))) rfl
theorem ao_X3 : Cond.arrayOver (.object RX3) ∈ lw_tbl := List.mem_append_right _ (List.mem_of_getElem? (i := 59) (by decide +kernel))
theorem in_X3 : Cond.instantiable RX3 7 ∈ lwg := lwg_in (List.mem_append_right _ (List.mem_of_getElem? (i := 60) (by decide +kernel))) rfl
theorem im_X3 : Cond.instanceMethod yX3_init ∈ lwg := lwg_in (List.mem_append_right _ (List.mem_of_getElem? (i := 62) (by decide +kernel))) rfl
theorem oi_X3 : Cond.methodLink RX3 3 objectInit ∈ lwg := lwg_in (List.mem_append_right _ (List.mem_of_getElem? (i := 64) (by decide +kernel))) rfl
theorem cl_X7_38 : Cond.classLink RX7 38 RX0 ∈ lwg := lwg_in (List.mem_append_right _ (List.mem_of_getElem? (i := 184) (by decide +kernel))) rfl
theorem in_X0 : Cond.instantiable RX0 3 ∈ lwg := lwg_in (List.mem_append_right _ (List.mem_of_getElem? (i := 185) (by decide +kernel))) rfl
theorem im_X0 : Cond.instanceMethod yX0_init ∈ lwg := lwg_in (List.mem_append_right _ (List.mem_of_getElem? (i := 187) (by decide +kernel))) rfl
theorem oi_X0 : Cond.methodLink RX0 3 objectInit ∈ lwg := lwg_in (List.mem_append_right _ (List.mem_of_getElem? (i := 189) (by decide +kernel))) rfl
theorem cl_X0_9 : Cond.classLink RX0 9 RX4 ∈ lwg := lwg_in (List.mem_append_right _ (List.mem_of_getElem? (i := 190) (by decide +kernel))) rfl
theorem ao_X4 : Cond.arrayOver (.object RX4) ∈ lw_tbl := List.mem_append_right _ (List.mem_of_getElem? (i := 191) (by decide +kernel))
theorem cl_X7_45 : Cond.classLink RX7 45 RX4 ∈ lwg := lwg_in (List.mem_append_right _ (List.mem_of_getElem? (i := 204) (by decide +kernel))) rfl
theorem cl_X7_51 : Cond.classLink RX7 51 RX1 ∈ lwg := lwg_in (List.mem_append_right _ (List.mem_of_getElem? (i := 205) (by decide +kernel))) rfl
theorem in_X1 : Cond.instantiable RX1 2 ∈ lwg := lwg_in (List.mem_append_right _ (List.mem_of_getElem? (i := 206) (by decide +kernel))) rfl
theorem im_X1 : Cond.instanceMethod yX1_init ∈ lwg := lwg_in (List.mem_append_right _ (List.mem_of_getElem? (i := 208) (by decide +kernel))) rfl
theorem oi_X1 : Cond.methodLink RX1 3 objectInit ∈ lwg := lwg_in (List.mem_append_right _ (List.mem_of_getElem? (i := 210) (by decide +kernel))) rfl
theorem in_X5 : Cond.instantiable RX5 3 ∈ lwg := lwg_in (List.mem_append_right _ (List.mem_of_getElem? (i := 218) (by decide +kernel))) rfl
theorem im_X5 : Cond.instanceMethod yX5_init ∈ lwg := lwg_in (List.mem_append_right _ (List.mem_of_getElem? (i := 220) (by decide +kernel))) rfl
theorem oi_X5 : Cond.methodLink RX5 3 objectInit ∈ lwg := lwg_in (List.mem_append_right _ (List.mem_of_getElem? (i := 222) (by decide +kernel))) rfl
theorem nst_in : NST ∈ lw_tbl := List.mem_append_right _ (List.mem_of_getElem? (i := 704) (by decide +kernel))
theorem cl_L_10 : Cond.classLink RL 10 RX8 ∈ lwg := lwg_in (List.mem_append_right _ (List.mem_of_getElem? (i := 801) (by decide +kernel))) rfl
theorem in_X8 : Cond.instantiable RX8 25 ∈ lwg := lwg_in (List.mem_append_right _ (List.mem_of_getElem? (i := 802) (by decide +kernel))) rfl
theorem im_X8 : Cond.instanceMethod yX8_init ∈ lwg := lwg_in (List.mem_append_right _ (List.mem_of_getElem? (i := 804) (by decide +kernel))) rfl
theorem oi_X8 : Cond.methodLink RX8 1 objectInit ∈ lwg := lwg_in (List.mem_append_right _ (List.mem_of_getElem? (i := 806) (by decide +kernel))) rfl
theorem ac_boolean : Cond.arrayClass .boolean ∈ lwg := lwg_in (List.mem_append_right _ (List.mem_of_getElem? (i := 883) (by decide +kernel))) rfl

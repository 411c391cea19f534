/-! SPECIAL WORDS (wip/tools/gen_spc.py) -/
set_option maxRecDepth 100000 in
theorem mj_x_ac_int : Jvm.Cond.arrayClass .int ∈ mj_W := mj_in (k := 1) (p := 111) (by decide +kernel) rfl
set_option maxRecDepth 100000 in
theorem mj_x_ac_long : Jvm.Cond.arrayClass .long ∈ mj_W := mj_in (k := 10) (p := 83) (by decide +kernel) rfl
set_option maxRecDepth 100000 in
theorem mj_x_ac_char : Jvm.Cond.arrayClass .char ∈ mj_W := mj_in (k := 1) (p := 110) (by decide +kernel) rfl
set_option maxRecDepth 100000 in
theorem mj_x_ac_boolean : Jvm.Cond.arrayClass .boolean ∈ mj_W := mj_in (k := 7) (p := 206) (by decide +kernel) rfl
set_option maxRecDepth 100000 in
theorem mj_x_ao_3 : Jvm.Cond.arrayOver (.object (mj_R 3)) ∈ mj_W := mj_in (k := 1) (p := 42) (by decide +kernel) rfl
set_option maxRecDepth 100000 in
theorem mj_x_ao_4 : Jvm.Cond.arrayOver (.object (mj_R 4)) ∈ mj_W := mj_in (k := 1) (p := 57) (by decide +kernel) rfl
set_option maxRecDepth 100000 in
theorem mj_x_ao_5 : Jvm.Cond.arrayOver (.object (mj_R 5)) ∈ mj_W := mj_in (k := 2) (p := 45) (by decide +kernel) rfl
set_option maxRecDepth 100000 in
theorem mj_x_ao_10 : Jvm.Cond.arrayOver (.object (mj_R 10)) ∈ mj_W := mj_in (k := 1) (p := 38) (by decide +kernel) rfl
set_option maxRecDepth 100000 in
theorem mj_x_ao_11 : Jvm.Cond.arrayOver (.object (mj_R 11)) ∈ mj_W := mj_in (k := 1) (p := 40) (by decide +kernel) rfl
set_option maxRecDepth 100000 in
theorem mj_x_oi_i : Jvm.Cond.instanceMethod Lib.objectInit ∈ mj_W := mj_in (k := 1) (p := 29) (by decide +kernel) rfl
set_option maxRecDepth 100000 in
theorem mj_x_oi_c : Jvm.Cond.code Lib.objectInit ⟨#[0xb1]⟩ 1 none ∈ mj_W := mj_in (k := 1) (p := 30) (by decide +kernel) rfl
set_option maxRecDepth 100000 in
theorem mj_x_mmin_s : Jvm.Cond.static Lib.Math.min.name ∈ mj_W := mj_in (k := 2) (p := 127) (by decide +kernel) rfl
set_option maxRecDepth 100000 in
theorem mj_x_mmin_c : Jvm.Cond.code Lib.Math.min.name Lib.Math.min.code 2 (some .int) ∈ mj_W := mj_in (k := 2) (p := 128) (by decide +kernel) rfl
set_option maxRecDepth 100000 in
theorem mj_x_mmax_s : Jvm.Cond.static Lib.Math.max.name ∈ mj_W := mj_in (k := 2) (p := 130) (by decide +kernel) rfl
set_option maxRecDepth 100000 in
theorem mj_x_mmax_c : Jvm.Cond.code Lib.Math.max.name Lib.Math.max.code 2 (some .int) ∈ mj_W := mj_in (k := 2) (p := 131) (by decide +kernel) rfl
set_option maxRecDepth 100000 in
theorem mj_x_m_i : Jvm.Cond.initialized "java/lang/Math" ∈ mj_W := mj_in (k := 1) (p := 10) (by decide +kernel) rfl
set_option maxRecDepth 100000 in
theorem mj_x_cp_n : Jvm.Cond.native arraycopyName ∈ mj_W := mj_in (k := 3) (p := 155) (by decide +kernel) rfl
set_option maxRecDepth 100000 in
theorem mj_x_cp_s : Jvm.Cond.static arraycopyName ∈ mj_W := mj_in (k := 3) (p := 154) (by decide +kernel) rfl
set_option maxRecDepth 100000 in
theorem mj_x_cp_i : Jvm.Cond.initialized "java/lang/System" ∈ mj_W := mj_in (k := 1) (p := 20) (by decide +kernel) rfl
set_option maxRecDepth 100000 in
theorem mj_x_cl_m : Jvm.Cond.sameMethod "[I" "java/lang/Object" "clone" "()Ljava/lang/Object;" ∈ mj_W := mj_in (k := 6) (p := 174) (by decide +kernel) rfl
set_option maxRecDepth 100000 in
theorem mj_x_cl_n : Jvm.Cond.native ⟨"java/lang/Object", "clone", "()Ljava/lang/Object;"⟩ ∈ mj_W := mj_in (k := 6) (p := 175) (by decide +kernel) rfl
set_option maxRecDepth 100000 in
theorem mj_x_cl_i : Jvm.Cond.instanceMethod ⟨"java/lang/Object", "clone", "()Ljava/lang/Object;"⟩ ∈ mj_W := mj_in (k := 6) (p := 176) (by decide +kernel) rfl
set_option maxRecDepth 100000 in
theorem mj_x_cl_s : Jvm.Cond.selects "[I" ⟨"[I", "clone", "()Ljava/lang/Object;"⟩ ⟨"java/lang/Object", "clone", "()Ljava/lang/Object;"⟩ ∈ mj_W := mj_in (k := 6) (p := 177) (by decide +kernel) rfl
set_option maxRecDepth 100000 in
theorem mj_x_cl_c : Jvm.Cond.castable "[I" "java/lang/Cloneable" ∈ mj_W := mj_in (k := 6) (p := 178) (by decide +kernel) rfl
set_option maxRecDepth 100000 in
theorem mj_x_cc : Jvm.Cond.classLink (mj_R 2) 73 "[I" ∈ mj_W := mj_in (k := 6) (p := 179) (by decide +kernel) rfl

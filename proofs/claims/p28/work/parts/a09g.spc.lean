/-! SPECIAL WORDS (wip/tools/gen_spc.py) -/
set_option maxRecDepth 100000 in
theorem rj_x_ac_int : Jvm.Cond.arrayClass .int ∈ rj_W := rj_in (k := 1) (p := 110) (by decide +kernel) rfl
set_option maxRecDepth 100000 in
theorem rj_x_ac_char : Jvm.Cond.arrayClass .char ∈ rj_W := rj_in (k := 1) (p := 109) (by decide +kernel) rfl
set_option maxRecDepth 100000 in
theorem rj_x_ao_3 : Jvm.Cond.arrayOver (.object (rj_R 3)) ∈ rj_W := rj_in (k := 1) (p := 41) (by decide +kernel) rfl
set_option maxRecDepth 100000 in
theorem rj_x_ao_4 : Jvm.Cond.arrayOver (.object (rj_R 4)) ∈ rj_W := rj_in (k := 1) (p := 56) (by decide +kernel) rfl
set_option maxRecDepth 100000 in
theorem rj_x_ao_5 : Jvm.Cond.arrayOver (.object (rj_R 5)) ∈ rj_W := rj_in (k := 2) (p := 44) (by decide +kernel) rfl
set_option maxRecDepth 100000 in
theorem rj_x_ao_10 : Jvm.Cond.arrayOver (.object (rj_R 10)) ∈ rj_W := rj_in (k := 1) (p := 37) (by decide +kernel) rfl
set_option maxRecDepth 100000 in
theorem rj_x_ao_11 : Jvm.Cond.arrayOver (.object (rj_R 11)) ∈ rj_W := rj_in (k := 1) (p := 39) (by decide +kernel) rfl
set_option maxRecDepth 100000 in
theorem rj_x_oi_i : Jvm.Cond.instanceMethod Lib.objectInit ∈ rj_W := rj_in (k := 1) (p := 28) (by decide +kernel) rfl
set_option maxRecDepth 100000 in
theorem rj_x_oi_c : Jvm.Cond.code Lib.objectInit ⟨#[0xb1]⟩ 1 none ∈ rj_W := rj_in (k := 1) (p := 29) (by decide +kernel) rfl
set_option maxRecDepth 100000 in
theorem rj_x_mmin_s : Jvm.Cond.static Lib.Math.min.name ∈ rj_W := rj_in (k := 2) (p := 126) (by decide +kernel) rfl
set_option maxRecDepth 100000 in
theorem rj_x_mmin_c : Jvm.Cond.code Lib.Math.min.name Lib.Math.min.code 2 (some .int) ∈ rj_W := rj_in (k := 2) (p := 127) (by decide +kernel) rfl
set_option maxRecDepth 100000 in
theorem rj_x_mmax_s : Jvm.Cond.static Lib.Math.max.name ∈ rj_W := rj_in (k := 2) (p := 129) (by decide +kernel) rfl
set_option maxRecDepth 100000 in
theorem rj_x_mmax_c : Jvm.Cond.code Lib.Math.max.name Lib.Math.max.code 2 (some .int) ∈ rj_W := rj_in (k := 2) (p := 130) (by decide +kernel) rfl
set_option maxRecDepth 100000 in
theorem rj_x_m_i : Jvm.Cond.initialized "java/lang/Math" ∈ rj_W := rj_in (k := 1) (p := 10) (by decide +kernel) rfl
set_option maxRecDepth 100000 in
theorem rj_x_cp_n : Jvm.Cond.native arraycopyName ∈ rj_W := rj_in (k := 4) (p := 77) (by decide +kernel) rfl
set_option maxRecDepth 100000 in
theorem rj_x_cp_s : Jvm.Cond.static arraycopyName ∈ rj_W := rj_in (k := 4) (p := 76) (by decide +kernel) rfl
set_option maxRecDepth 100000 in
theorem rj_x_cp_i : Jvm.Cond.initialized "java/lang/System" ∈ rj_W := rj_in (k := 1) (p := 20) (by decide +kernel) rfl
set_option maxRecDepth 100000 in
theorem rj_x_cl_m : Jvm.Cond.sameMethod "[I" "java/lang/Object" "clone" "()Ljava/lang/Object;" ∈ rj_W := rj_in (k := 6) (p := 136) (by decide +kernel) rfl
set_option maxRecDepth 100000 in
theorem rj_x_cl_n : Jvm.Cond.native ⟨"java/lang/Object", "clone", "()Ljava/lang/Object;"⟩ ∈ rj_W := rj_in (k := 6) (p := 137) (by decide +kernel) rfl
set_option maxRecDepth 100000 in
theorem rj_x_cl_i : Jvm.Cond.instanceMethod ⟨"java/lang/Object", "clone", "()Ljava/lang/Object;"⟩ ∈ rj_W := rj_in (k := 6) (p := 138) (by decide +kernel) rfl
set_option maxRecDepth 100000 in
theorem rj_x_cl_s : Jvm.Cond.selects "[I" ⟨"[I", "clone", "()Ljava/lang/Object;"⟩ ⟨"java/lang/Object", "clone", "()Ljava/lang/Object;"⟩ ∈ rj_W := rj_in (k := 6) (p := 139) (by decide +kernel) rfl
set_option maxRecDepth 100000 in
theorem rj_x_cl_c : Jvm.Cond.castable "[I" "java/lang/Cloneable" ∈ rj_W := rj_in (k := 6) (p := 140) (by decide +kernel) rfl
set_option maxRecDepth 100000 in
theorem rj_x_cc : Jvm.Cond.classLink (rj_R 2) 73 "[I" ∈ rj_W := rj_in (k := 6) (p := 141) (by decide +kernel) rfl

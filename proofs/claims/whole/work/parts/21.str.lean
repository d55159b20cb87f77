/-! String.length() and String.charAt(int) of the string constants. -/
section STR
variable {l : Launch} {K : Nat → Option xT} {cA : Nat → ClassId} {ad : Nat → Nat → Nat} {Cl : List (Nat × Nat)} {D : va_G} {cl : List vw_C} {A : Nat → Prop} {tys : List (ClassId × FieldType)} {hh : Nat} {adS adV : Nat → Nat} {fm : Value}
theorem w_st38 : Cond.fieldLink RJ0 38 "java/lang/String" "COMPACT_STRINGS" "Z" ∈ x_Ts := List.mem_filter.mpr ⟨by decide +kernel, by decide +kernel⟩
theorem w_st15 : Cond.fieldLink RJ0 15 "java/lang/String" "coder" "B" ∈ x_Ts := List.mem_filter.mpr ⟨by decide +kernel, by decide +kernel⟩
theorem w_st9 : Cond.fieldLink RJ0 9 "java/lang/String" "value" "[B" ∈ x_Ts := List.mem_filter.mpr ⟨by decide +kernel, by decide +kernel⟩
theorem w_st1053 : Cond.fieldLink RJ0 1053 "jdk/internal/util/Preconditions" "SIOOBE_FORMATTER" "Ljava/util/function/BiFunction;" ∈ x_Ts := List.mem_filter.mpr ⟨by decide +kernel, by decide +kernel⟩
theorem w_st335 : Cond.methodLink RJ0 335 yJ0_coder_7d493 ∈ x_Ts := List.mem_filter.mpr ⟨by decide +kernel, by decide +kernel⟩
theorem w_st492 : Cond.methodLink RJ0 492 yJ0_isLatin1_aae02 ∈ x_Ts := List.mem_filter.mpr ⟨by decide +kernel, by decide +kernel⟩
theorem w_st495 : Cond.methodLink RJ0 495 yJ1_charAt_3b067 ∈ x_Ts := List.mem_filter.mpr ⟨by decide +kernel, by decide +kernel⟩
theorem w_st1059 : Cond.methodLink RJ0 1059 yJ3_checkIndex_8e157 ∈ x_Ts := List.mem_filter.mpr ⟨by decide +kernel, by decide +kernel⟩
theorem w_sl9 : Cond.methodLink RJ1 9 yJ0_checkIndex_df160 ∈ x_Ts := List.mem_filter.mpr ⟨by decide +kernel, by decide +kernel⟩
/-- what a call of a member wants: its code, its class, an instance's or a static one's -/
def x_jV (y : MethodName) (cc : ByteArray) (maxL : Nat) (ret : Option FieldType) : Prop := Cond.code y cc maxL ret ∈ x_Ts ∧ Cond.initialized y.cls ∈ x_Ts ∧ Cond.instanceMethod y ∈ x_Ts ∧ Cond.selects y.cls y y ∈ x_Ts
def x_jS (y : MethodName) (cc : ByteArray) (maxL : Nat) (ret : Option FieldType) : Prop := Cond.code y cc maxL ret ∈ x_Ts ∧ Cond.initialized y.cls ∈ x_Ts ∧ Cond.static y ∈ x_Ts
theorem j_length : x_jV yJ0_length_8abf5 cJ0_length_8abf5 1 (some .int) := ⟨List.mem_filter.mpr ⟨by decide +kernel, by decide +kernel⟩, List.mem_filter.mpr ⟨by decide +kernel, by decide +kernel⟩, List.mem_filter.mpr ⟨by decide +kernel, by decide +kernel⟩, List.mem_filter.mpr ⟨by decide +kernel, by decide +kernel⟩⟩
theorem j_coder : x_jV yJ0_coder_7d493 cJ0_coder_7d493 1 (some .byte) := ⟨List.mem_filter.mpr ⟨by decide +kernel, by decide +kernel⟩, List.mem_filter.mpr ⟨by decide +kernel, by decide +kernel⟩, List.mem_filter.mpr ⟨by decide +kernel, by decide +kernel⟩, List.mem_filter.mpr ⟨by decide +kernel, by decide +kernel⟩⟩
theorem j_isLatin1 : x_jV yJ0_isLatin1_aae02 cJ0_isLatin1_aae02 1 (some .boolean) := ⟨List.mem_filter.mpr ⟨by decide +kernel, by decide +kernel⟩, List.mem_filter.mpr ⟨by decide +kernel, by decide +kernel⟩, List.mem_filter.mpr ⟨by decide +kernel, by decide +kernel⟩, List.mem_filter.mpr ⟨by decide +kernel, by decide +kernel⟩⟩
theorem j_charAt : x_jV yJ0_charAt_5068e cJ0_charAt_5068e 2 (some .char) := ⟨List.mem_filter.mpr ⟨by decide +kernel, by decide +kernel⟩, List.mem_filter.mpr ⟨by decide +kernel, by decide +kernel⟩, List.mem_filter.mpr ⟨by decide +kernel, by decide +kernel⟩, List.mem_filter.mpr ⟨by decide +kernel, by decide +kernel⟩⟩
theorem j_charAt1 : x_jS yJ1_charAt_3b067 cJ1_charAt_3b067 2 (some .char) := ⟨List.mem_filter.mpr ⟨by decide +kernel, by decide +kernel⟩, List.mem_filter.mpr ⟨by decide +kernel, by decide +kernel⟩, List.mem_filter.mpr ⟨by decide +kernel, by decide +kernel⟩⟩
theorem j_check0 : x_jS yJ0_checkIndex_df160 cJ0_checkIndex_df160 2 none := ⟨List.mem_filter.mpr ⟨by decide +kernel, by decide +kernel⟩, List.mem_filter.mpr ⟨by decide +kernel, by decide +kernel⟩, List.mem_filter.mpr ⟨by decide +kernel, by decide +kernel⟩⟩
theorem j_check3 : x_jS yJ3_checkIndex_8e157 cJ3_checkIndex_8e157 3 (some .int) := ⟨List.mem_filter.mpr ⟨by decide +kernel, by decide +kernel⟩, List.mem_filter.mpr ⟨by decide +kernel, by decide +kernel⟩, List.mem_filter.mpr ⟨by decide +kernel, by decide +kernel⟩⟩
end STR

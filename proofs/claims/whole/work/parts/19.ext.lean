/-! What lies outside the world: nest links, the row of constants, texts. -/
section EXT
/-- entries and texts of the string constants, by their numbers -/
def x_sE : List (Nat × String) := [(201, ".#abcdef0123"), (242, "dsvhkin"), (247, "<>="), (249, "+-"), (251, "*/"), (372, "nlcptf")]
def x_sL : List Nat := [12, 7, 3, 2, 2, 6]
def x_sB : List (List Int32) := [[46, 35, 97, 98, 99, 100, 101, 102, 48, 49, 50, 51], [100, 115, 118, 104, 107, 105, 110], [60, 62, 61], [43, 45], [42, 47], [110, 108, 99, 112, 116, 102]]
def x_EX (A : Nat → Prop) (hh : Nat) (adS adV : Nat → Nat) (fm : Value) (s : State) : Prop :=
  (∀ w ∈ x_Nw, va_Nw w s) ∧ (va_Z "PramGardens" "HIGHEST_HEARD" "[I" (.ref hh) A s s.heap ∧ va_X hh 5 x_cst s s.heap ∧ hh < s.heap.size ∧ ¬ A hh) ∧
  (∀ (j : Nat) (q : Nat × String), x_sE[j]? = some q → vk_R "PramGardensModel" q.1 q.2 (adS j) s) ∧ vk_S 6 x_sL x_sB adS adV A s s.heap ∧
  va_Z "java/lang/String" "COMPACT_STRINGS" "Z" (.int 1) A s s.heap ∧ va_Z "jdk/internal/util/Preconditions" "SIOOBE_FORMATTER" "Ljava/util/function/BiFunction;" fm A s s.heap ∧ fm.category = 1
theorem x_EX_nw {A : Nat → Prop} {hh : Nat} {adS adV : Nat → Nat} {fm : Value} : ∀ s, x_EX A hh adS adV fm s → ∀ w ∈ x_Nw, va_Nw w s := fun _ h => h.1
theorem x_EX_m {A : Nat → Prop} {hh : Nat} {adS adV : Nat → Nat} {fm : Value} : x_EXm (x_EX A hh adS adV fm) A := by
  intro s U h hv hz hk
  have hal : s.vm.Alike U.vm := by
    rcases hv with hv | hv
    · exact hv.alike
    · rw [hv]; exact Vm.Alike.refl s.vm
  obtain ⟨h1, ⟨h2, h3, h4, h5⟩, h6, h7, h8, h9, h10⟩ := h
  refine ⟨fun w hw => ?_, ⟨(h2.kept (fun a ha hA => hk a ha hA)).moved hal, (h3.kept (hk hh h4 h5)).moved hal, Nat.lt_of_lt_of_le h4 hz, h5⟩, fun j q hq => ?_, (h7.kept (fun a ha hA => hk a ha hA)).moved hal, (h8.kept (fun a ha hA => hk a ha hA)).moved hal, (h9.kept (fun a ha hA => hk a ha hA)).moved hal, h10⟩
  · have hn := (List.mem_filter.mp hw).2
    have z := h1 w hw
    rcases hv with hv | hv
    · cases w <;> first | (exact absurd hn Bool.false_ne_true) | exact va_Nw.warmF hv z | exact va_Nw.warmM hv z
    · cases w <;> first | (exact absurd hn Bool.false_ne_true) | exact va_Nw.same rfl hv.symm z
  · rcases hv with hv | hv
    · exact (h6 j q hq).warm hv
    · exact (h6 j q hq).same hv
theorem x_ldcwS {p : Program} {l : Launch} {e : Env} {R : Room} {s : State} {m : MethodId} {args : Array Value} {below : List Frame} {meth : Method} {c : Code} {H : Heap} {locs : List Loc} {cells slots : Nat} {Q : State → Prop} {cc : ByteArray} {pc : Nat} {ls : Array Slot} {rest : List Value} (hexec : p.tables.exec = Jvm.exec) (hb : c.code = cc) {own tx : String} {index q : Nat} (hown : s.vm.findClass own = some m.cls) (hZ : vk_R own index tx q s) (hdg : decode cc pc = .ok (.ldc_w index, 3))
    (k : W p l e R s m args below meth c H locs cells slots Q (F0 m (pc + 3) ls (.ref q :: rest))) : W p l e R s m args below meth c H locs cells slots Q (F0 m pc ls rest) := by
  intro T hT X
  obtain ⟨t, a1, b1⟩ := k T hT X
  exact ⟨t, X.ldcStringW hexec hown (text := tx) (a := q) hZ.1 hZ.2 (g := F0 m pc ls rest) rfl (by rw [hb]; exact hdg) t a1, b1⟩
end EXT

/-! THE WORDS that the methods take along, and those of a call -/
/-- the words that every method takes along -/
def wg : List Cond := lw_tbl.filter goodWord
theorem wg_in {w : Cond} (i : Nat) (h : tables_1[i]? = some w) (hg : goodWord w = true) : w ∈ wg := List.mem_filter.mpr ⟨List.mem_append_right _ (List.mem_of_getElem? h), hg⟩
theorem wg_sel {w : Cond} (i : Nat) (h : (k2_sels lw_privs)[i]? = some w) (hg : goodWord w = true) : w ∈ wg := List.mem_filter.mpr ⟨List.mem_append_left _ (List.mem_of_getElem? h), hg⟩
theorem wg_good : GoodIn wg wg := fun _ hw => ⟨hw, good_of_word (List.mem_filter.mp hw).2⟩
theorem wg_cons {w : Cond} (h : w ∈ wg) : GoodIn wg (w :: wg) := fun v hv => by
  rcases List.mem_cons.mp hv with rfl | hv
  · exact wg_good _ h
  · exact wg_good _ hv
/-- the words of a call -/
def CwV (own : String) (o : Nat) (y : MethodName) (bytes : ByteArray) (maxL : Nat) (ret : Option FieldType) (N : Nat) : Prop := Cond.methodLink own o y ∈ wg ∧ Cond.instanceMethod y ∈ wg ∧ Cond.selects y.cls y y ∈ wg ∧ Cond.initialized y.cls ∈ wg ∧ Cond.code y bytes maxL ret ∈ wg ∧ (y.cls ≠ "java/lang/invoke/MethodHandle" ∧ y.cls ≠ "java/lang/invoke/VarHandle" ∧ (parseMethodDescriptor y.desc).map (fun d => d.parameters.length) = some N)
def CwS (own : String) (o : Nat) (y : MethodName) (bytes : ByteArray) (maxL : Nat) (ret : Option FieldType) (N : Nat) : Prop := Cond.methodLink own o y ∈ wg ∧ Cond.static y ∈ wg ∧ Cond.initialized y.cls ∈ wg ∧ Cond.code y bytes maxL ret ∈ wg ∧ (y.cls ≠ "java/lang/invoke/MethodHandle" ∧ y.cls ≠ "java/lang/invoke/VarHandle" ∧ (parseMethodDescriptor y.desc).map (fun d => d.parameters.length) = some N)
/-- the room of a method whose calls go d deep -/
def rmD (d : Nat) : Room := { frames := d, cells := 0, slots := 0, locals := 60 * d }
